/-! ===== part 9a: a timer runs out: what is set before data go again ===== -/
section Back
variable {A M A' M' : Mm}
/-- what may go at once after it -/
def bkR (v : Nat → Nat) : Nat := if (v 13) = 0 then 1 else min (v 9) (v 13)
def bkS (v : Nat → Nat) : Nat := max (((v 3) - (v 1)) / 2) (2 * (v 9))
def bkO (v : Nat → Nat) : Nat := min 60000 (2 * (v 12))
def bkA (A : Mm) (k : Nat) (b0 : Int32) (v : Nat → Nat) (x : Nat) : Mm := sF (sF (sF (sF (sF (sF (sF (sF A 789 (342 + 4 * k) 0) 791 (342 + 4 * k) (nI (x + 1))) 780 (342 + 4 * k) (nI (bkS v))) 779 (342 + 4 * k) (nI (v 9))) 786 (342 + 4 * k) 0) 792 (342 + 4 * k) 0) 781 (342 + 4 * k) (nI (bkO v))) 773 (342 + 4 * k) (b0 + nI (v 1))
def bkM (M : Mm) (c : Nat) (b0 : Int32) (v : Nat → Nat) (x nw : Nat) : Mm := sF (sF (sF (sF (sF (sF (sF (sF M 325 (c + 5) (nI (x + 1))) 322 (c + 5) (nI (bkS v))) 321 (c + 5) (nI (v 9))) 327 (c + 5) 0) 326 (c + 5) 0) 323 (c + 5) (nI (bkO v))) 324 (c + 5) (nI (nw + bkO v))) 69 c (b0 + nI (v 1))
def bvN (v : Nat → Nat) : Nat → Nat := fun i => if i = 2 then (v 1) else if i = 10 then (v 9) else if i = 11 then bkS v else if i = 12 then bkO v else if i = 14 then 0 else v i
theorem m_back (fu : Nat) {KN KS t T k c nw im ig hd ft x : Nat} {b0 : Int32} {v : Nat → Nat} (h : TK A M KN KS t T im ig k c nw hd ft b0 v) (hk : k < 16) (hst : (v 0) ≠ 1) (hx : (mF A 791 (342 + 4 * k)) = nI x) (hx8 : x + 1 ≤ 8) : fX16_runOut fu 323 (some (342 + 4 * k)) A = fX16_runOut_L195 fu 323 (some (342 + 4 * k)) (some 323) (some (342 + 4 * k)) (nI (bkR v)) (bkA A k b0 v x) := by
  have hR := h.rw'
  have hA := rw_cnO hR k hk
  have hI := h.ci
  have hS := h.cs
  have ms1 := hI.ms1
  have ro1 := hI.ro1
  have wi1 := hI.wi1
  have mL := hI.mL
  have b1 := hI.hl1
  have b2' := hI.bl1
  have b3 := hI.cl1
  have um : (v 1) ≤ (v 3) := Nat.le_trans hI.ua hI.am
  have st1 : ¬ mF A 768 (342 + 4 * k) = (1 : Int32) := by
    rw [hS.st]
    exact fun z => hst ((nI_eq (b := 1) (by have := hS.st1; omega) (by decide)).mp z)
  have z0 : ∀ (B : Mm) f, okA B 12 (342 + 4 * k) → pZ B 12 f (some (342 + 4 * k)) 0 = some (sF B f (342 + 4 * k) 0) := fun B f h => pZ_ok h (Or.inl rfl)
  have le8 : (nI (x + 1) : Int32) ≤ (8 : Int32) := nI_le (b := 8) hx8 (by decide)
  have ex : (nI x : Int32) + 1 = nI (x + 1) := nI_1 x
  have em : (b0 + nI (v 3)) - (b0 + nI (v 1)) = nI ((v 3) - (v 1)) := by rw [sub_b0, nI_sub um]
  have ed : (nI ((v 3) - (v 1)) : Int32) / (2 : Int32) = nI (((v 3) - (v 1)) / 2) := pk_div (d := 2) (by omega) (by decide) (by decide)
  have e2 : (2 : Int32) * nI (v 9) = nI (2 * (v 9)) := pk_mul 2 (v 9)
  have es : jmax (nI (((v 3) - (v 1)) / 2)) (nI (2 * (v 9))) = nI (bkS v) := jmax_nI (by omega) (by omega)
  have e3 : (2 : Int32) * nI (v 12) = nI (2 * (v 12)) := pk_mul 2 (v 12)
  have eo : jmin (60000 : Int32) (nI (2 * (v 12))) = nI (bkO v) := jmin_nI (a := 60000) (by decide) (by omega)
  have er : jmin (nI (v 9)) (nI (v 13)) = nI (min (v 9) (v 13)) := jmin_nI (by omega) (by omega)
  unfold fX16_runOut fX16_runOut_L33 fX16_runOut_L114
  simp only [z0, pF_ok, gI_ok, hA, ok_sF, ob_some, mF_sF, reduceIte, Nat.reduceEqDiff, Nat.reduceAdd, Nat.reduceMul, Nat.reduceLT, Nat.reduceLeDiff, and_true, true_and, and_false, false_and, and_self, ne_eq, not_true_eq_false, not_false_eq_true, Option.some.injEq, reduceCtorEq, hx, ex, st1, if_false, le8, if_true, hI.max, hI.una, em, ed, hI.ms, e2, es, hI.ro, e3, eo, hI.wi]
  unfold bkR
  by_cases q : (v 13) = 0
  · rw [if_pos (show (nI (v 13) : Int32) = 0 by rw [q]; rfl), if_pos q]
    rfl
  · rw [if_neg (show ¬ (nI (v 13) : Int32) = 0 from fun z => q ((nI_eq (b := 0) (by omega) (by decide)).mp z)), if_neg q, er]
    rfl
theorem bkA_ff (A : Mm) (k : Nat) (b0 : Int32) (v : Nat → Nat) (x : Nat) : FF (fun g => g = 773 ∨ g = 779 ∨ g = 780 ∨ g = 781 ∨ g = 786 ∨ g = 789 ∨ g = 791 ∨ g = 792) (342 + 4 * k) A (bkA A k b0 v x) := by
  unfold bkA
  exact (((((((FF.s _ (by omega)).tr (FF.s _ (by omega))).tr (FF.s _ (by omega))).tr (FF.s _ (by omega))).tr (FF.s _ (by omega))).tr (FF.s _ (by omega))).tr (FF.s _ (by omega))).tr (FF.s _ (by omega))
theorem bkA_v (A : Mm) (k : Nat) (b0 : Int32) (v : Nat → Nat) (x : Nat) : mF (bkA A k b0 v x) 773 (342 + 4 * k) = b0 + nI (v 1) ∧ mF (bkA A k b0 v x) 779 (342 + 4 * k) = nI (v 9) ∧ mF (bkA A k b0 v x) 780 (342 + 4 * k) = nI (bkS v) ∧ mF (bkA A k b0 v x) 781 (342 + 4 * k) = nI (bkO v) ∧ mF (bkA A k b0 v x) 786 (342 + 4 * k) = 0 ∧ mF (bkA A k b0 v x) 789 (342 + 4 * k) = 0 ∧ mF (bkA A k b0 v x) 791 (342 + 4 * k) = nI (x + 1) ∧ mF (bkA A k b0 v x) 792 (342 + 4 * k) = 0 := by
  unfold bkA
  refine ⟨?_, ?_, ?_, ?_, ?_, ?_, ?_, ?_⟩ <;> simp only [mF_sF, reduceIte, Nat.reduceEqDiff, Nat.reduceAdd, Nat.reduceMul, Nat.reduceLT, Nat.reduceLeDiff, and_true, true_and, and_false, false_and, and_self, ne_eq, not_true_eq_false, not_false_eq_true, Option.some.injEq, reduceCtorEq]
theorem bkM_v (M : Mm) (c : Nat) (b0 : Int32) (v : Nat → Nat) (x nw : Nat) : mF (bkM M c b0 v x nw) 325 (c + 5) = nI (x + 1) ∧ mF (bkM M c b0 v x nw) 322 (c + 5) = nI (bkS v) ∧ mF (bkM M c b0 v x nw) 321 (c + 5) = nI (v 9) ∧ mF (bkM M c b0 v x nw) 327 (c + 5) = 0 ∧ mF (bkM M c b0 v x nw) 326 (c + 5) = 0 ∧ mF (bkM M c b0 v x nw) 323 (c + 5) = nI (bkO v) ∧ mF (bkM M c b0 v x nw) 324 (c + 5) = nI (nw + bkO v) ∧ mF (bkM M c b0 v x nw) 69 c = b0 + nI (v 1) ∧ mS (bkM M c b0 v x nw) = mS M ∧ mG (bkM M c b0 v x nw) = mG M ∧ mB (bkM M c b0 v x nw) = mB M ∧ mA (bkM M c b0 v x nw) = mA M ∧ (∀ f a, ¬ ((321 ≤ f ∧ f ≤ 327) ∧ a = c + 5) → ¬ (f = 69 ∧ a = c) → mF (bkM M c b0 v x nw) f a = mF M f a) := by
  unfold bkM
  refine ⟨?_, ?_, ?_, ?_, ?_, ?_, ?_, ?_, rfl, rfl, rfl, rfl, fun f a h1 h2 => ?_⟩
  · simp only [mF_sF, reduceIte, Nat.reduceEqDiff, Nat.reduceAdd, Nat.reduceMul, Nat.reduceLT, Nat.reduceLeDiff, and_true, true_and, and_false, false_and, and_self, ne_eq, not_true_eq_false, not_false_eq_true, Option.some.injEq, reduceCtorEq]
  · simp only [mF_sF, reduceIte, Nat.reduceEqDiff, Nat.reduceAdd, Nat.reduceMul, Nat.reduceLT, Nat.reduceLeDiff, and_true, true_and, and_false, false_and, and_self, ne_eq, not_true_eq_false, not_false_eq_true, Option.some.injEq, reduceCtorEq]
  · simp only [mF_sF, reduceIte, Nat.reduceEqDiff, Nat.reduceAdd, Nat.reduceMul, Nat.reduceLT, Nat.reduceLeDiff, and_true, true_and, and_false, false_and, and_self, ne_eq, not_true_eq_false, not_false_eq_true, Option.some.injEq, reduceCtorEq]
  · simp only [mF_sF, reduceIte, Nat.reduceEqDiff, Nat.reduceAdd, Nat.reduceMul, Nat.reduceLT, Nat.reduceLeDiff, and_true, true_and, and_false, false_and, and_self, ne_eq, not_true_eq_false, not_false_eq_true, Option.some.injEq, reduceCtorEq]
  · simp only [mF_sF, reduceIte, Nat.reduceEqDiff, Nat.reduceAdd, Nat.reduceMul, Nat.reduceLT, Nat.reduceLeDiff, and_true, true_and, and_false, false_and, and_self, ne_eq, not_true_eq_false, not_false_eq_true, Option.some.injEq, reduceCtorEq]
  · simp only [mF_sF, reduceIte, Nat.reduceEqDiff, Nat.reduceAdd, Nat.reduceMul, Nat.reduceLT, Nat.reduceLeDiff, and_true, true_and, and_false, false_and, and_self, ne_eq, not_true_eq_false, not_false_eq_true, Option.some.injEq, reduceCtorEq]
  · simp only [mF_sF, reduceIte, Nat.reduceEqDiff, Nat.reduceAdd, Nat.reduceMul, Nat.reduceLT, Nat.reduceLeDiff, and_true, true_and, and_false, false_and, and_self, ne_eq, not_true_eq_false, not_false_eq_true, Option.some.injEq, reduceCtorEq]
  · simp only [mF_sF, reduceIte, Nat.reduceEqDiff, Nat.reduceAdd, Nat.reduceMul, Nat.reduceLT, Nat.reduceLeDiff, and_true, true_and, and_false, false_and, and_self, ne_eq, not_true_eq_false, not_false_eq_true, Option.some.injEq, reduceCtorEq]
  · simp only [mF_sF]
    rw [if_neg h2, if_neg (fun e => h1 ⟨by omega, e.2⟩), if_neg (fun e => h1 ⟨by omega, e.2⟩), if_neg (fun e => h1 ⟨by omega, e.2⟩), if_neg (fun e => h1 ⟨by omega, e.2⟩), if_neg (fun e => h1 ⟨by omega, e.2⟩), if_neg (fun e => h1 ⟨by omega, e.2⟩), if_neg (fun e => h1 ⟨by omega, e.2⟩)]
/-- the connection with the timing left out, as it is before data go again -/
theorem CI_back {KN KS t T k c nw im ig hd ft x : Nat} {b0 : Int32} {v : Nat → Nat} (h : TK A M KN KS t T im ig k c nw hd ft b0 v) : CI (sF (bkA A k b0 v x) 785 (342 + 4 * k) 0) k nw t im b0 (uv (bvN v) 16 0) := by
  have hI := h.ci
  have F1 := bkA_ff A k b0 v x
  obtain ⟨w73, w79, w80, w81, w86, w89, w91, w92⟩ := bkA_v A k b0 v x
  generalize bkA A k b0 v x = A1 at F1 w73 w79 w80 w81 w86 w89 w91 w92
  have ms1 := hI.ms1
  have ro1 := hI.ro1
  have mL := hI.mL
  have b1 := hI.hl1
  have b2' := hI.bl1
  have b3 := hI.cl1
  have um : (v 1) ≤ (v 3) := Nat.le_trans hI.ua hI.am
  have sb : 128 ≤ bkS v ∧ bkS v ≤ 65535 := by unfold bkS; omega
  have ob : 1000 ≤ bkO v ∧ bkO v ≤ 60000 := by unfold bkO; omega
  have s85 : ∀ g, g ≠ 785 → mF (sF A1 785 (342 + 4 * k) 0) g (342 + 4 * k) = mF A1 g (342 + 4 * k) := fun g hg => by rw [mF_sF, if_neg (fun e => hg e.1)]
  have FA' : ∀ g, ¬ (g = 773 ∨ g = 779 ∨ g = 780 ∨ g = 781 ∨ g = 785 ∨ g = 786 ∨ g = 789 ∨ g = 791 ∨ g = 792) → mF (sF A1 785 (342 + 4 * k) 0) g (342 + 4 * k) = mF A g (342 + 4 * k) := fun g hg => (s85 g (by omega)).trans (F1.2.2.2.2 g _ (fun e => hg (by omega)))
  refine CI.mk ?_ ?_ ?_ ?_ ?_ ?_ ?_ ?_ ?_ ?_ ?_ ?_ ?_ ?_ ?_ ?_ ?_ ?_ ?_ ?_ ?_ ?_ ?_ ?_ ?_ ?_ ?_ ?_ ?_ ?_ ?_ ?_ ?_ ?_ ?_ ?_
  · exact (FA' 797 (by omega)).trans hI.bg
  · exact (FA' 772 (by omega)).trans hI.una
  · exact (s85 773 (by decide)).trans w73
  · exact (FA' 774 (by omega)).trans hI.max
  · exact Nat.le_refl _
  · exact um
  · exact hI.mL
  · exact (FA' 794 (by omega)).trans hI.hl
  · exact hI.hl1
  · exact (FA' 796 (by omega)).trans hI.bl
  · exact hI.bl1
  · rw [FA' 795 (by omega)]; exact hI.bp
  · exact (FA' 798 (by omega)).trans hI.cl
  · exact hI.cl1
  · exact (FA' 799 (by omega)).trans hI.fn
  · exact hI.fn1
  · exact hI.fnI
  · exact (FA' 778 (by omega)).trans hI.ms
  · exact hI.ms1
  · exact (s85 779 (by decide)).trans w79
  · show 64 ≤ (v 9) ∧ (v 9) ≤ 70000; omega
  · exact (s85 780 (by decide)).trans w80
  · exact sb
  · exact (s85 781 (by decide)).trans w81
  · exact ob
  · exact (FA' 775 (by omega)).trans hI.wi
  · exact hI.wi1
  · exact (s85 789 (by decide)).trans w89
  · exact Nat.zero_le _
  · exact fun z => absurd (show (0 : Nat) = 1 from z) (by decide)
  · rw [mF_sF, if_pos ⟨rfl, rfl⟩]; rfl
  · exact Nat.zero_le _
  · exact fun z => absurd (show (0 : Nat) = 1 from z) (by decide)
  · exact (FA' 784 (by omega)).trans hI.me
  · exact hI.me1
  · rw [FA' 782 (by omega), FA' 783 (by omega)]; exact hI.sv
theorem CIw_back {KN KS t T k c nw im ig hd ft x : Nat} {b0 : Int32} {v : Nat → Nat} (h : TK A M KN KS t T im ig k c nw hd ft b0 v) : CIw (bkA A k b0 v x) k nw t im b0 (bvN v) := by
  have hI := h.ci
  have H := (CI_back (x := x) h).w
  have F1 := bkA_ff A k b0 v x
  generalize bkA A k b0 v x = A1 at H F1
  have s85 : ∀ g, g ≠ 785 → mF A1 g (342 + 4 * k) = mF (sF A1 785 (342 + 4 * k) 0) g (342 + 4 * k) := fun g hg => by rw [mF_sF, if_neg (fun e => hg e.1)]
  have ti' : mF A1 785 (342 + 4 * k) = nI (v 16) := (F1.2.2.2.2 785 _ (by omega)).trans hI.ti
  have tn' : (v 16) = 1 → mF A1 787 (342 + 4 * k) = b0 + nI (v 17) ∧ mF A1 788 (342 + 4 * k) = nI (v 18) := fun z => ⟨(F1.2.2.2.2 787 _ (by omega)).trans (hI.tn z).2.1, (F1.2.2.2.2 788 _ (by omega)).trans (hI.tn z).2.2.2.2.1⟩
  exact CIw.mk ((s85 797 (by decide)).trans H.bg) ((s85 772 (by decide)).trans H.una) ((s85 773 (by decide)).trans H.at') ((s85 774 (by decide)).trans H.max) H.ua H.am H.mL ((s85 794 (by decide)).trans H.hl) H.hl1 ((s85 796 (by decide)).trans H.bl) H.bl1 (fun z => ⟨(s85 795 (by decide)).trans (H.bp z).1, (H.bp z).2⟩) ((s85 798 (by decide)).trans H.cl) H.cl1 ((s85 799 (by decide)).trans H.fn) H.fn1 H.fnI ((s85 778 (by decide)).trans H.ms) H.ms1 ((s85 779 (by decide)).trans H.cw) H.cw1 ((s85 780 (by decide)).trans H.ss) H.ss1 ((s85 781 (by decide)).trans H.ro) H.ro1 ((s85 775 (by decide)).trans H.wi) H.wi1 ((s85 789 (by decide)).trans H.on) H.on1 (fun z => absurd (show (0 : Nat) = 1 from z) (by decide)) ti' hI.ti1 tn' ((s85 784 (by decide)).trans H.me) H.me1 (fun z => ⟨(s85 782 (by decide)).trans (H.sv z).1, (H.sv z).2.1, (s85 783 (by decide)).trans (H.sv z).2.2.1, (H.sv z).2.2.2⟩)
end Back
