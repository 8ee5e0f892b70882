/-! ===== part 97k: one segment of an answer, in both ===== -/
def TK (A M : Mm) (KN KS t T im ig k c nw hd ft : Nat) (b0 : Int32) (v : Nat → Nat) : Prop := (JL0 KN KS t T A M) ∧ (Bd RM TM A) ∧ (Bd RX TX M) ∧ (JN A M) ∧ (JI im ig A M) ∧ (CnO M c) ∧ (CE A M k c) ∧ (CP A M k c) ∧ (CI A k nw t im b0 v) ∧ (CS A k nw b0 v) ∧ (CR A M k c hd ft) ∧ ((mF A 1034 323) = nI nw) ∧ (nw ≤ 2000000000) ∧ True
theorem TK.jl {A M : Mm} {KN KS t T im ig k c nw hd ft : Nat} {b0 : Int32} {v : Nat → Nat} (h : TK A M KN KS t T im ig k c nw hd ft b0 v) : JL0 KN KS t T A M := h.1
theorem TK.ba {A M : Mm} {KN KS t T im ig k c nw hd ft : Nat} {b0 : Int32} {v : Nat → Nat} (h : TK A M KN KS t T im ig k c nw hd ft b0 v) : Bd RM TM A := h.2.1
theorem TK.bm {A M : Mm} {KN KS t T im ig k c nw hd ft : Nat} {b0 : Int32} {v : Nat → Nat} (h : TK A M KN KS t T im ig k c nw hd ft b0 v) : Bd RX TX M := h.2.2.1
theorem TK.jn {A M : Mm} {KN KS t T im ig k c nw hd ft : Nat} {b0 : Int32} {v : Nat → Nat} (h : TK A M KN KS t T im ig k c nw hd ft b0 v) : JN A M := h.2.2.2.1
theorem TK.ji {A M : Mm} {KN KS t T im ig k c nw hd ft : Nat} {b0 : Int32} {v : Nat → Nat} (h : TK A M KN KS t T im ig k c nw hd ft b0 v) : JI im ig A M := h.2.2.2.2.1
theorem TK.cn {A M : Mm} {KN KS t T im ig k c nw hd ft : Nat} {b0 : Int32} {v : Nat → Nat} (h : TK A M KN KS t T im ig k c nw hd ft b0 v) : CnO M c := h.2.2.2.2.2.1
theorem TK.ce {A M : Mm} {KN KS t T im ig k c nw hd ft : Nat} {b0 : Int32} {v : Nat → Nat} (h : TK A M KN KS t T im ig k c nw hd ft b0 v) : CE A M k c := h.2.2.2.2.2.2.1
theorem TK.cp {A M : Mm} {KN KS t T im ig k c nw hd ft : Nat} {b0 : Int32} {v : Nat → Nat} (h : TK A M KN KS t T im ig k c nw hd ft b0 v) : CP A M k c := h.2.2.2.2.2.2.2.1
theorem TK.ci {A M : Mm} {KN KS t T im ig k c nw hd ft : Nat} {b0 : Int32} {v : Nat → Nat} (h : TK A M KN KS t T im ig k c nw hd ft b0 v) : CI A k nw t im b0 v := h.2.2.2.2.2.2.2.2.1
theorem TK.cs {A M : Mm} {KN KS t T im ig k c nw hd ft : Nat} {b0 : Int32} {v : Nat → Nat} (h : TK A M KN KS t T im ig k c nw hd ft b0 v) : CS A k nw b0 v := h.2.2.2.2.2.2.2.2.2.1
theorem TK.cr {A M : Mm} {KN KS t T im ig k c nw hd ft : Nat} {b0 : Int32} {v : Nat → Nat} (h : TK A M KN KS t T im ig k c nw hd ft b0 v) : CR A M k c hd ft := h.2.2.2.2.2.2.2.2.2.2.1
theorem TK.nw {A M : Mm} {KN KS t T im ig k c nw hd ft : Nat} {b0 : Int32} {v : Nat → Nat} (h : TK A M KN KS t T im ig k c nw hd ft b0 v) : (mF A 1034 323) = nI nw := h.2.2.2.2.2.2.2.2.2.2.2.1
theorem TK.n2 {A M : Mm} {KN KS t T im ig k c nw hd ft : Nat} {b0 : Int32} {v : Nat → Nat} (h : TK A M KN KS t T im ig k c nw hd ft b0 v) : nw ≤ 2000000000 := h.2.2.2.2.2.2.2.2.2.2.2.2.1
theorem TK.mk {A M : Mm} {KN KS t T im ig k c nw hd ft : Nat} {b0 : Int32} {v : Nat → Nat} (jl_ : JL0 KN KS t T A M) (ba_ : Bd RM TM A) (bm_ : Bd RX TX M) (jn_ : JN A M) (ji_ : JI im ig A M) (cn_ : CnO M c) (ce_ : CE A M k c) (cp_ : CP A M k c) (ci_ : CI A k nw t im b0 v) (cs_ : CS A k nw b0 v) (cr_ : CR A M k c hd ft) (nw_ : (mF A 1034 323) = nI nw) (n2_ : nw ≤ 2000000000) : TK A M KN KS t T im ig k c nw hd ft b0 v := ⟨jl_, ba_, bm_, jn_, ji_, cn_, ce_, cp_, ci_, cs_, cr_, nw_, n2_, trivial⟩
/-- v with n + fi numbers more sent -/
def adv (v w : Nat → Nat) (n fi : Nat) : Prop := (w 0) = nst v fi ∧ (w 1) = (v 1) ∧ (w 2) = (v 2) + n + fi ∧ (w 3) = max (v 3) ((v 2) + n + fi) ∧ (w 4) = (v 4) ∧ (w 5) = (v 5) ∧ (w 6) = (v 6) ∧ (w 7) = (v 7) ∧ (w 8) = (if fi = 1 then 1 else (v 8)) ∧ (w 9) = (v 9) ∧ (w 10) = (v 10) ∧ (w 11) = (v 11) ∧ (w 12) = (v 12) ∧ (w 13) = (v 13) ∧ (w 14) = 1 ∧ (w 22) = (v 22)
section One
variable {A M : Mm}
/-- numbers go on, in the reference -/
theorem m_adv (fu : Nat) (hR : RW A) {k a m x : Nat} {b0 : Int32} (hk : k < 16) (hm : (mF A 774 (342 + 4 * k)) = b0 + nI m) (h1 : m < 2 ^ 30) (h2 : x < 2 ^ 30) (s1 s2 : Int32) (hx : s1 + s2 = b0 + nI x) : ∃ A', fX16_one_L69 fu (some (342 + 4 * k)) (some (342 + 4 * k)) s1 s2 A = some A' ∧ FF (fun f => f = 773 ∨ f = 774) (342 + 4 * k) A A' ∧ (mF A' 773 (342 + 4 * k)) = b0 + nI x ∧ (mF A' 774 (342 + 4 * k)) = b0 + nI (max m x) := by
  have hA := rw_cnO hR k hk
  have hb : (0 ≤ (b0 + nI m) - (b0 + nI x)) ↔ x ≤ m := bef_nI h1 h2
  unfold fX16_one_L69 fX16_before
  rw [hx]
  by_cases c : x ≤ m
  · have c' := hb.mpr c
    refine ⟨sF A 773 (342 + 4 * k) (b0 + nI x), ?_, FF.s _ (Or.inl rfl), by simp only [mF_sF, reduceIte, Nat.reduceEqDiff, Nat.reduceAdd, Nat.reduceMul, Nat.reduceLT, Nat.reduceLeDiff, and_true, true_and, and_false, false_and, and_self, ne_eq, not_true_eq_false, not_false_eq_true, Option.some.injEq, reduceCtorEq], ?_⟩
    · simp only [pF_ok, gI_ok, hA, ok_sF, ob_some, mF_sF, hm, c', if_true, rN0, b2_some, reduceIte, Nat.reduceEqDiff, Nat.reduceAdd, Nat.reduceMul, Nat.reduceLT, Nat.reduceLeDiff, and_true, true_and, and_false, false_and, and_self, ne_eq, not_true_eq_false, not_false_eq_true, Option.some.injEq, reduceCtorEq]
    · simp only [mF_sF, reduceIte, Nat.reduceEqDiff, Nat.reduceAdd, Nat.reduceMul, Nat.reduceLT, Nat.reduceLeDiff, and_true, true_and, and_false, false_and, and_self, ne_eq, not_true_eq_false, not_false_eq_true, Option.some.injEq, reduceCtorEq]; rw [hm, Nat.max_eq_left c]
  · have c' : ¬ 0 ≤ (b0 + nI m) - (b0 + nI x) := fun e => c (hb.mp e)
    refine ⟨sF (sF A 773 (342 + 4 * k) (b0 + nI x)) 774 (342 + 4 * k) (b0 + nI x), ?_, (FF.s _ (Or.inl rfl)).tr (FF.s _ (Or.inr rfl)), by simp only [mF_sF, reduceIte, Nat.reduceEqDiff, Nat.reduceAdd, Nat.reduceMul, Nat.reduceLT, Nat.reduceLeDiff, and_true, true_and, and_false, false_and, and_self, ne_eq, not_true_eq_false, not_false_eq_true, Option.some.injEq, reduceCtorEq], ?_⟩
    · simp only [pF_ok, gI_ok, hA, ok_sF, ob_some, mF_sF, hm, c', if_false, rN1, b2_some, show ¬ (1 : Int32) = 0 by decide, reduceIte, Nat.reduceEqDiff, Nat.reduceAdd, Nat.reduceMul, Nat.reduceLT, Nat.reduceLeDiff, and_true, true_and, and_false, false_and, and_self, ne_eq, not_true_eq_false, not_false_eq_true, Option.some.injEq, reduceCtorEq]
    · simp only [mF_sF, reduceIte, Nat.reduceEqDiff, Nat.reduceAdd, Nat.reduceMul, Nat.reduceLT, Nat.reduceLeDiff, and_true, true_and, and_false, false_and, and_self, ne_eq, not_true_eq_false, not_false_eq_true, Option.some.injEq, reduceCtorEq]; rw [Nat.max_eq_right (by omega)]
theorem x_adv (fu : Nat) {c a m x : Nat} {b0 : Int32} (c1 : okA M 1 c) (ha : (mF M 69 c) = b0 + nI a) (hm : (mF M 70 c) = b0 + nI m) (h1 : m < 2 ^ 30) (h2 : a + x < 2 ^ 30) : ∃ M', fX1_advance fu c (nI x) M = some M' ∧ FF (fun f => f = 69 ∨ f = 70) c M M' ∧ (mF M' 69 c) = b0 + nI (a + x) ∧ (mF M' 70 c) = b0 + nI (max m (a + x)) := by
  have hb : ((b0 + nI (a + x)) - (b0 + nI m) ≤ 0) ↔ a + x ≤ m := beh_nI h2 h1
  have en : b0 + nI a + nI x = b0 + nI (a + x) := by rw [Int32.add_assoc, nI_add]
  unfold fX1_advance
  by_cases c' : a + x ≤ m
  · have c2 := hb.mpr c'
    refine ⟨sF M 69 c (b0 + nI (a + x)), ?_, FF.s _ (Or.inl rfl), by simp only [mF_sF, reduceIte, Nat.reduceEqDiff, Nat.reduceAdd, Nat.reduceMul, Nat.reduceLT, Nat.reduceLeDiff, and_true, true_and, and_false, false_and, and_self, ne_eq, not_true_eq_false, not_false_eq_true, Option.some.injEq, reduceCtorEq], ?_⟩
    · simp only [pF_ok, gI_ok, c1, ok_sF, ob_some, mF_sF, ha, hm, en, c2, if_true, reduceIte, Nat.reduceEqDiff, Nat.reduceAdd, Nat.reduceMul, Nat.reduceLT, Nat.reduceLeDiff, and_true, true_and, and_false, false_and, and_self, ne_eq, not_true_eq_false, not_false_eq_true, Option.some.injEq, reduceCtorEq]
    · simp only [mF_sF, reduceIte, Nat.reduceEqDiff, Nat.reduceAdd, Nat.reduceMul, Nat.reduceLT, Nat.reduceLeDiff, and_true, true_and, and_false, false_and, and_self, ne_eq, not_true_eq_false, not_false_eq_true, Option.some.injEq, reduceCtorEq]; rw [hm, Nat.max_eq_left c']
  · have c2 : ¬ (b0 + nI (a + x)) - (b0 + nI m) ≤ 0 := fun e => c' (hb.mp e)
    refine ⟨sF (sF M 69 c (b0 + nI (a + x))) 70 c (b0 + nI (a + x)), ?_, (FF.s _ (Or.inl rfl)).tr (FF.s _ (Or.inr rfl)), by simp only [mF_sF, reduceIte, Nat.reduceEqDiff, Nat.reduceAdd, Nat.reduceMul, Nat.reduceLT, Nat.reduceLeDiff, and_true, true_and, and_false, false_and, and_self, ne_eq, not_true_eq_false, not_false_eq_true, Option.some.injEq, reduceCtorEq], ?_⟩
    · simp only [pF_ok, gI_ok, c1, ok_sF, ob_some, mF_sF, ha, hm, en, c2, if_false, reduceIte, Nat.reduceEqDiff, Nat.reduceAdd, Nat.reduceMul, Nat.reduceLT, Nat.reduceLeDiff, and_true, true_and, and_false, false_and, and_self, ne_eq, not_true_eq_false, not_false_eq_true, Option.some.injEq, reduceCtorEq]
    · simp only [mF_sF, reduceIte, Nat.reduceEqDiff, Nat.reduceAdd, Nat.reduceMul, Nat.reduceLT, Nat.reduceLeDiff, and_true, true_and, and_false, false_and, and_self, ne_eq, not_true_eq_false, not_false_eq_true, Option.some.injEq, reduceCtorEq]; rw [Nat.max_eq_right (by omega)]
/-- the numbers after a segment are right -/
theorem CI_adv {A' : Mm} {k nw t im n fi : Nat} {b0 : Int32} {v w : Nat → Nat} (hI : CI A k nw t im b0 v) (hs : segOk v (v 2) n fi) (hw : ntd v w nw (v 2)) (hn2 : nw ≤ 2000000000)
    (e73 : (mF A' 773 (342 + 4 * k)) = b0 + nI ((v 2) + n + fi)) (e74 : (mF A' 774 (342 + 4 * k)) = b0 + nI (max (v 3) ((v 2) + n + fi))) (e99 : (mF A' 799 (342 + 4 * k)) = nI (if fi = 1 then 1 else (v 8))) (eti : (mF A' 785 (342 + 4 * k)) = nI (w 16)) (etn : (w 16) = 1 → (mF A' 787 (342 + 4 * k)) = b0 + nI (w 17) ∧ (mF A' 788 (342 + 4 * k)) = nI (w 18)) (eon : (mF A' 789 (342 + 4 * k)) = nI 1) (etm : (mF A' 790 (342 + 4 * k)) = nI (w 15))
    (hF : ∀ g, 772 ≤ g → g ≤ 799 → ¬ (g = 773 ∨ g = 774 ∨ g = 785 ∨ g = 787 ∨ g = 788 ∨ g = 789 ∨ g = 790 ∨ g = 799) → mF A' g (342 + 4 * k) = mF A g (342 + 4 * k)) : ∃ v', CI A' k nw t im b0 v' ∧ adv v v' n fi ∧ (v' 23) = (v 23) := by
  obtain ⟨-, -, -, -, -, -, -, -, -, -, -, -, -, -, -, wtm, wti, wtn, wta, -⟩ := hw
  have hua := hI.ua
  have ham := hI.am
  have hmL := hI.mL
  have hcl1 := hI.cl1
  have hfn1 := hI.fn1
  have hro1 := hI.ro1
  have hti1 := hI.ti1
  have hon1 := hI.on1
  obtain ⟨f1, f2, f3, f4, f5, f6, f7⟩ := hs
  have fL : (v 2) + n + fi ≤ 1 + (v 4) + (v 5) + (v 7) := by
    by_cases q : fi = 1
    · have := f7 q; omega
    · omega
  have hfn : (if fi = 1 then 1 else (v 8)) = 1 ↔ ((v 7) = 1 ∧ max (v 3) ((v 2) + n + fi) = (v 4) + (v 5) + 2) := by
    have h := hI.fnI
    by_cases q : fi = 1
    · have := f7 q
      rw [if_pos q]
      omega
    · rw [if_neg q, h]
      omega
  refine ⟨fun i => if i = 0 then nst v fi else if i = 2 then (v 2) + n + fi else if i = 3 then max (v 3) ((v 2) + n + fi) else if i = 8 then (if fi = 1 then 1 else (v 8)) else if i = 14 then 1 else if i = 15 then (w 15) else if i = 16 then (w 16) else if i = 17 then (w 17) else if i = 18 then (w 18) else v i, ?_, ⟨rfl, rfl, rfl, rfl, rfl, rfl, rfl, rfl, rfl, rfl, rfl, rfl, rfl, rfl, rfl, rfl⟩, rfl⟩
  refine CI.mk ?_ ?_ e73 e74 ?_ ?_ ?_ ?_ hI.hl1 ?_ hI.bl1 ?_ ?_ hI.cl1 e99 ?_ hfn ?_ hI.ms1 ?_ hI.cw1 ?_ hI.ss1 ?_ hI.ro1 ?_ hI.wi1 eon (Nat.le_refl _) (fun _ => ?_) eti ?_ (fun h => ?_) ?_ hI.me1 (fun h => ?_)
  · exact (hF _ (by decide) (by decide) (by omega)).trans hI.bg
  · exact (hF _ (by decide) (by decide) (by omega)).trans hI.una
  · show (v 1) ≤ (v 2) + n + fi
    omega
  · show (v 2) + n + fi ≤ max (v 3) ((v 2) + n + fi)
    omega
  · show max (v 3) ((v 2) + n + fi) ≤ 1 + (v 4) + (v 5) + (v 7)
    omega
  · exact (hF _ (by decide) (by decide) (by omega)).trans hI.hl
  · exact (hF _ (by decide) (by decide) (by omega)).trans hI.bl
  · rw [hF _ (by decide) (by decide) (by omega)]; exact hI.bp
  · exact (hF _ (by decide) (by decide) (by omega)).trans hI.cl
  · show (if fi = 1 then 1 else (v 8)) ≤ 1
    split <;> omega
  · exact (hF _ (by decide) (by decide) (by omega)).trans hI.ms
  · exact (hF _ (by decide) (by decide) (by omega)).trans hI.cw
  · exact (hF _ (by decide) (by decide) (by omega)).trans hI.ss
  · exact (hF _ (by decide) (by decide) (by omega)).trans hI.ro
  · exact (hF _ (by decide) (by decide) (by omega)).trans hI.wi
  · show (mF A' 790 (342 + 4 * k)) = nI (w 15) ∧ nw ≤ (w 15) ∧ (w 15) ≤ nw + 60000 ∧ ((v 1) ≠ 0 → (v 1) < 1 + (v 4) + (v 5) + (v 7))
    refine ⟨etm, ?_, ?_, fun _ => by omega⟩
    · rw [wtm]
      by_cases q : (v 14) = 1
      · rw [if_pos q]; exact (hI.tm q).2.1
      · rw [if_neg q]; omega
    · rw [wtm]
      by_cases q : (v 14) = 1
      · rw [if_pos q]; exact (hI.tm q).2.2.1
      · rw [if_neg q]; omega
  · show (w 16) ≤ 1
    rw [wti]; split <;> omega
  · have h' : (w 16) = 1 := h
    have hnm : ¬ (v 2) < (v 3) := fun e => by rw [wti, if_pos e] at h'; cases h'
    show 1 = 1 ∧ (mF A' 787 (342 + 4 * k)) = b0 + nI (w 17) ∧ (v 1) ≤ (w 17) ∧ (w 17) < max (v 3) ((v 2) + n + fi) ∧ (mF A' 788 (342 + 4 * k)) = nI (w 18) ∧ (w 18) ≤ nw ∧ (w 15) ≤ (w 18) + 60000 * (t + 1)
    refine ⟨rfl, (etn h').1, ?_, ?_, (etn h').2, ?_, ?_⟩
    · rw [wtn]
      by_cases q : (v 16) = 1
      · rw [if_pos q]; exact (hI.tn q).2.2.1
      · rw [if_neg q]; exact hua
    · rw [wtn]
      by_cases q : (v 16) = 1
      · have := (hI.tn q).2.2.2.1
        rw [if_pos q]; omega
      · rw [if_neg q]; omega
    · rw [wta]
      by_cases q : (v 16) = 1
      · rw [if_pos q]; exact (hI.tn q).2.2.2.2.2.1
      · rw [if_neg q]; exact Nat.le_refl _
    · rw [wta, wtm]
      by_cases q : (v 16) = 1
      · obtain ⟨r1, -, -, -, -, -, r7⟩ := hI.tn q
        rw [if_pos q, if_pos r1]; exact r7
      · rw [if_neg q]
        have h60 : 60000 ≤ 60000 * (t + 1) := Nat.le_mul_of_pos_right _ (Nat.succ_pos t)
        by_cases q2 : (v 14) = 1
        · rw [if_pos q2]
          exact Nat.le_trans (hI.tm q2).2.2.1 (Nat.add_le_add_left h60 _)
        · rw [if_neg q2]
          exact Nat.add_le_add_left (Nat.le_trans hro1.2 h60) _
  · exact (hF _ (by decide) (by decide) (by omega)).trans hI.me
  · rw [hF _ (by decide) (by decide) (by omega), hF _ (by decide) (by decide) (by omega)]
    exact hI.sv h
theorem CS_adv {A' : Mm} {k nw t im n fi : Nat} {b0 : Int32} {v v' : Nat → Nat} (hI : CI A k nw t im b0 v) (hS : CS A k nw b0 v) (hst : sendSt (v 0)) (hs : segOk v (v 2) n fi) (ha : adv v v' n fi) (hsi : (v' 23) = (v 23)) (e68 : (mF A' 768 (342 + 4 * k)) = nI (nst v fi)) (e12 : (mF A' 812 (342 + 4 * k)) = (mF A 812 (342 + 4 * k))) : CS A' k nw b0 v' := by
  obtain ⟨a0, a1, a2, a3, a4, a5, a6, a7, a8, a9, a10, a11, a12, a13, a14, a15⟩ := ha
  have hua := hI.ua
  have ham := hI.am
  have hfn1 := hI.fn1
  obtain ⟨f1, f2, f3, f4, f5, f6, f7⟩ := hs
  have hne : (v 0) ≠ 1 := by unfold sendSt at hst; omega
  have hu := hS.sN1 hne
  have hla := hS.la hne
  have key : (fi = 1 ∧ (v 8) = 0 ∧ (((v 0) = 2 ∧ nst v fi = 3) ∨ ((v 0) = 7 ∧ nst v fi = 8))) ∨ (¬ (fi = 1 ∧ (v 8) = 0) ∧ nst v fi = (v 0)) := by
    unfold nst
    by_cases q : fi = 1 ∧ (v 8) = 0
    · left
      refine ⟨q.1, q.2, ?_⟩
      rw [if_pos q]
      rcases hst with q1 | q1 | q1 | q1 | q1
      · left; exact ⟨q1, by rw [if_pos q1]⟩
      · right; exact ⟨q1, by rw [if_neg (by omega)]⟩
      · have := (hS.s358 (Or.inl q1)).1; omega
      · have := (hS.s358 (Or.inr (Or.inl q1))).1; omega
      · have := (hS.s358 (Or.inr (Or.inr q1))).1; omega
    · right
      exact ⟨q, by rw [if_neg q]⟩
  have s27 := hS.s27
  have s358 := hS.s358
  rw [← a0] at key e68
  refine CS.mk e68 ?_ (fun h => ?_) (fun _ => by omega) (fun h => ?_) (fun h => ?_) (fun h => ?_) (fun _ => ⟨?_, ?_, fun h1 h2 h3 h4 => ?_⟩) (fun h => ?_)
  · have := hS.st1
    rcases key with ⟨-, -, ⟨-, q⟩ | ⟨-, q⟩⟩ | ⟨-, q⟩ <;> omega
  · exfalso
    rcases key with ⟨-, -, ⟨-, q⟩ | ⟨-, q⟩⟩ | ⟨-, q⟩ <;> omega
  · rw [a8]
    rcases key with ⟨-, -, ⟨-, q⟩ | ⟨-, q⟩⟩ | ⟨q0, q⟩
    · omega
    · omega
    · rw [q] at h
      have h2 := s27 h
      rw [if_neg (fun e => q0 ⟨e, h2⟩)]
      exact h2
  · rw [a8, a1, a4, a5]
    rcases key with ⟨k1, k2, q⟩ | ⟨q0, q⟩
    · rw [if_pos k1]
      have := f7 k1
      exact ⟨rfl, by omega⟩
    · rw [q] at h
      obtain ⟨r1, r2⟩ := s358 h
      refine ⟨?_, r2⟩
      split
      · rfl
      · exact r1
  · exfalso
    unfold sendSt at hst
    rcases key with ⟨-, -, ⟨-, q⟩ | ⟨-, q⟩⟩ | ⟨-, q⟩ <;> omega
  · rw [e12, a15]; exact hla.1
  · rw [a15]; exact hla.2.1
  · exfalso
    rw [a1, a3] at h3
    omega
  · exfalso
    unfold sendSt at hst
    rcases key with ⟨-, -, ⟨-, q⟩ | ⟨-, q⟩⟩ | ⟨-, q⟩ <;> omega
theorem sp_one (fu : Nat) (hfu : 4000 ≤ fu) {KN KS t T k c nw im ig n fi hd ft : Nat} {b0 : Int32} {v : Nat → Nat} (h : TK A M KN KS t T im ig k c nw hd ft b0 v) (hT2 : T < 2 ^ 30) (hk : k < 16) (hst : sendSt (v 0)) (hs : segOk v (v 2) n fi) :
    ∃ A' M' T' v', fX16_one_L36 fu 323 (some (342 + 4 * k)) (nI n) (nI fi) A = some A' ∧ (fX9_sendPart fu 317 (some c) (mF M 69 c) (nI (n + fi)) M).bind (fun M6 => (rc M6 1 (some c)).bind fun q7 => fX1_advance fu q7 (nI (n + fi)) M6) = some M' ∧ T ≤ T' ∧ T' ≤ T + 1 ∧ TK A' M' KN KS t T' im ig k c nw hd ft b0 v' ∧ adv v v' n fi ∧ FCA k A A' ∧ FCM c M M' ∧ (∀ g, ¬ (g = 768 ∨ g = 773 ∨ g = 774 ∨ g = 785 ∨ g = 787 ∨ g = 788 ∨ g = 789 ∨ g = 790 ∨ g = 799 ∨ g = 805 ∨ g = 807) → g < 896 → mF A' g (342 + 4 * k) = mF A g (342 + 4 * k)) := by
  have hI := h.ci
  have hE := h.ce
  have hJ := h.jl
  obtain ⟨w, hw⟩ := ntd_ex v nw (v 2)
  obtain ⟨A1, M1, T', r1, r2, r3, r4, r5, r6, r7, r8, r9, r10, r11, r12, r13, r14, r15, r16, r17, r18, r19, r20, r21, r22⟩ := sp_dataOut fu hfu hJ h.ba h.bm hT2 hk h.cn hE h.cp hI h.cs h.cr h.jn h.ji h.nw h.n2 hst hs hw
  have hs' := hs
  obtain ⟨f1, f2, f3, f4, f5, f6, -⟩ := hs'
  have b1 := hI.hl1
  have b2' := hI.bl1
  have hmL := hI.mL
  have hcl1 := hI.cl1
  have e74 : (mF A1 774 (342 + 4 * k)) = b0 + nI (v 3) := (r22 774 (by omega) (by decide)).trans hI.max
  have e69 : (mF M1 69 c) = b0 + nI (v 2) := by rw [← r11.at', r22 773 (by omega) (by decide)]; exact hI.at'
  have e70 : (mF M1 70 c) = b0 + nI (v 3) := by rw [← r11.max]; exact e74
  obtain ⟨s1, s2, hx⟩ : ∃ s1 s2, (if nI fi = 0 then fX16_one_L69 fu (some (342 + 4 * k)) (some (342 + 4 * k)) ((b0 + nI (v 2)) + nI n) (0 : Int32) A1 else fX16_one_L69 fu (some (342 + 4 * k)) (some (342 + 4 * k)) ((b0 + nI (v 2)) + nI n) (1 : Int32) A1) = fX16_one_L69 fu (some (342 + 4 * k)) (some (342 + 4 * k)) s1 s2 A1 ∧ s1 + s2 = b0 + nI ((v 2) + n + fi) := by
    by_cases q : fi = 1
    · subst q
      refine ⟨(b0 + nI (v 2)) + nI n, 1, by rw [if_neg (show ¬ nI 1 = 0 by decide)], ?_⟩
      rw [Int32.add_assoc b0, nI_add, Int32.add_assoc, nI_1]
    · have q0 : fi = 0 := by omega
      subst q0
      refine ⟨(b0 + nI (v 2)) + nI n, 0, by rw [if_pos (show nI 0 = 0 from rfl)], ?_⟩
      rw [Int32.add_zero, Int32.add_assoc, nI_add]
      rfl
  obtain ⟨A', p1, p2, p3, p4⟩ := m_adv (A := A1) (a := 0) fu r5.1 hk e74 (by omega) (by omega) s1 s2 hx.2
  obtain ⟨M', q1, q2, q3, q4⟩ := x_adv (M := M1) (a := (v 2)) (x := n + fi) fu r10.1 e69 e70 (by omega) (by omega)
  rw [show (v 2) + (n + fi) = (v 2) + n + fi by omega] at q3 q4
  have FA' : ∀ g, ¬ (g = 773 ∨ g = 774) → mF A' g (342 + 4 * k) = mF A1 g (342 + 4 * k) := fun g hg => p2.2.2.2.2 g _ (fun e => hg e.1)
  have FM' : ∀ g, ¬ (g = 69 ∨ g = 70) → mF M' g c = mF M1 g c := fun g hg => q2.2.2.2.2 g _ (fun e => hg e.1)
  have FMo : ∀ g o, o ≠ c → mF M' g o = mF M1 g o := fun g o ho => q2.2.2.2.2 g _ (fun e => ho e.2)
  obtain ⟨v', i1, i2, i3⟩ := CI_adv (A' := A') hI hs hw h.n2 p3 p4 ((FA' _ (by omega)).trans r17) ((FA' _ (by omega)).trans r18) (fun hh => ⟨(FA' _ (by omega)).trans (r19 hh).1, (FA' _ (by omega)).trans (r19 hh).2⟩) ((FA' _ (by omega)).trans r20) ((FA' _ (by omega)).trans r21) (fun g h1 h2 h3 => (FA' g (by omega)).trans (r22 g (by omega) (by omega)))
  have hS' := CS_adv (A' := A') hI h.cs hst hs i2 i3 ((FA' _ (by omega)).trans r16) ((FA' _ (by omega)).trans (r22 _ (by omega) (by decide)))
  have nS : ∀ f, f = 773 ∨ f = 774 → 768 ≤ f ∧ f < 832 := fun f hh => by omega
  refine ⟨A', M', T', v', ?_, ?_, r3, r4, ?_, i2, r14.tr (p2.ca nS), r15.tr (q2.cm (Or.inl rfl)), fun g h1 h2 => (FA' g (by omega)).trans (r22 g (by omega) h2)⟩
  · unfold fX16_one_L36
    rw [gI_ok (rw_cnO hJ.1 k hk), ob_some, rc_ok (rw_ok323 hJ.1), ob_some, hI.at', r1, ob_some, hx.1, p1]
  · rw [← hE.at', hI.at', r2, ob_some, rc_ok r10.1, ob_some, q1]
  · refine TK.mk ?_ ?_ ?_ ?_ ?_ (q2.cN r10) ?_ ?_ i1 hS' ?_ ?_ h.n2
    · exact JL0_cn r5 r10 p2.1 p2.2.1 p2.2.2.1 (fun g a hh => p2.2.2.2.2 g a (fun e => by unfold JLf at hh; omega)) (fun a _ => by rw [p2.2.2.2.1]) q2.1 q2.2.1 q2.2.2.1 (fun g a h1 _ _ _ => FMo g a h1) (fun a _ _ _ _ _ _ _ => by rw [q2.2.2.2.1])
    · obtain ⟨z1, z2, z3, z4, z5⟩ := r6
      exact ⟨fun a cc hh ht => z1 a cc (by unfold okA at *; rw [p2.1] at hh; exact hh) ht, fun g a b hh e => z2 g a b hh (by rw [p2.2.1] at e; exact e), fun a i b hh e => z3 a i b hh (by rw [p2.2.2.1] at e; exact e), by rw [p2.1]; exact z4, fun a i hh => by rw [p2.2.2.2.1]; exact z5 a i (by rw [p2.1] at hh; exact hh)⟩
    · obtain ⟨z1, z2, z3, z4, z5⟩ := r7
      exact ⟨fun a cc hh ht => z1 a cc (by unfold okA at *; rw [q2.1] at hh; exact hh) ht, fun g a b hh e => z2 g a b hh (by rw [q2.2.1] at e; exact e), fun a i b hh e => z3 a i b hh (by rw [q2.2.2.1] at e; exact e), by rw [q2.1]; exact z4, fun a i hh => by rw [q2.2.2.2.1]; exact z5 a i (by rw [q2.1] at hh; exact hh)⟩
    · intro i hi
      rw [p2.2.2.2.1, q2.2.2.2.1]; exact r8 i hi
    · obtain ⟨z1, z2, z3, z4, z5, z6⟩ := r9
      unfold JI okA
      rw [q2.1, q2.2.1, q2.2.2.2.1, p2.2.2.2.1]
      exact ⟨z1, z2, z3, z4, z5, z6⟩
    · refine CE.mk ?_ ?_ ?_ ?_ ?_ ?_ ?_ ?_ ?_ ?_ ?_ ?_ ?_ ?_ ?_ ?_ ?_ ?_
      · rw [FA' _ (by omega), FM' _ (by omega)]; exact r11.st
      · rw [FA' _ (by omega), FM' _ (by omega)]; exact r11.ip
      · rw [FA' _ (by omega), FM' _ (by omega)]; exact r11.po
      · rw [FA' _ (by omega), FM' _ (by omega)]; exact r11.is
      · rw [FA' _ (by omega), FM' _ (by omega)]; exact r11.una
      · rw [p3, q3]
      · rw [p4, q4]
      · rw [FA' _ (by omega), FM' _ (by omega)]; exact r11.wi
      · rw [FA' _ (by omega), FM' _ (by omega)]; exact r11.w1
      · rw [FA' _ (by omega), FM' _ (by omega)]; exact r11.w2
      · rw [FA' _ (by omega), FM' _ (by omega)]; exact r11.hl
      · rw [FA' _ (by omega), FM' _ (by omega)]; exact r11.bl
      · rw [FA' 796 (by omega), FA' 795 (by omega), FM' _ (by omega)]; exact r11.bp
      · rw [FA' _ (by omega), FM' _ (by omega)]; exact r11.bg
      · rw [FA' _ (by omega), FM' _ (by omega)]; exact r11.cl
      · rw [FA' 768 (by omega), FA' 812 (by omega), FM' _ (by omega)]; exact r11.la
      · rw [FA' 768 (by omega), FA' 813 (by omega), FM' _ (by omega)]; exact r11.li
      · rw [FA' _ (by omega), p2.2.2.2.1, q2.2.2.2.1]; exact r11.hd
    · exact CP_congr (A := A1) (M := M1) (fun g h1 h2 => FA' g (by omega)) (fun g h1 h2 => FMo g _ (by omega)) r12
    · exact CR_congr (A := A1) (M := M1) (fun g hg => FA' g (by omega)) (by rw [p2.2.2.2.1]) (by rw [p2.2.2.2.1]) (fun g _ => FMo g _ (by omega)) (by rw [q2.2.2.2.1]) (by rw [q2.2.2.2.1]) r13
    · obtain ⟨nq, pn1, pn2, pn3⟩ := hJ.2.2.2.2.1.2.2.2.2.1
      have e1 : mF A' 1034 323 = mF A1 1034 323 := p2.2.2.2.2 _ _ (fun e => by omega)
      have e2 : mF A1 1034 323 = mF A 1034 323 := r14.2.2.2.1 _ _ (by unfold PCa PL; omega)
      rw [e1, e2]; exact h.nw
end One
