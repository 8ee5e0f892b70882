/-! ===== part 9e: the answer to a first segment goes again, in both ===== -/
section Back5
variable {A M A' M' : Mm}
theorem sp_backS (fu : Nat) (hfu : 4000 ≤ fu) {KN KS t T k c nw im ig hd ft x : Nat} {b0 : Int32} {v : Nat → Nat} (h : TK A M KN KS t T im ig k c nw hd ft b0 v) (hk : k < 16) (hst : (v 0) = 1) (hx : (mF A 791 (342 + 4 * k)) = nI x) (hx5 : x + 1 ≤ 5) (hT2 : T < 2 ^ 30) :
    ∃ A' M' T' v', fX16_runOut fu 323 (some (342 + 4 * k)) A = some A' ∧ fX9_runOut fu 317 (some c) M = some M' ∧ T ≤ T' ∧ T' ≤ T + 1 ∧ TK A' M' KN KS t T' im ig k c nw hd ft b0 v' ∧ FCA k A A' ∧ FCM c M M' ∧ (∀ g, g = 769 ∨ g = 770 ∨ g = 798 → mF A' g (342 + 4 * k) = mF A g (342 + 4 * k)) ∧ (mF A' 791 (342 + 4 * k)) = nI (x + 1) ∧ mA A' 330 5 = mA A 330 5 := by
  have hR := h.rw'
  have hW := h.xw
  have hA := rw_cnO hR k hk
  have hC := h.cn
  obtain ⟨c1, c2, c3, c4, c5, c6, c7, c8, c9, c10, c11, c12, c13, c14⟩ := hC
  have hC := h.cn
  have hE := h.ce
  have hP := h.cp
  have hI := h.ci
  have hS := h.cs
  have hr := h.cr
  obtain ⟨su, sa, sm, shl, sbl, scl, siss, srec⟩ := hS.s1 hst
  have ms1 := hI.ms1
  have ro1 := hI.ro1
  have hd1 := hr.hd1
  have ex : (nI x : Int32) + 1 = nI (x + 1) := nI_1 x
  have e3 : (2 : Int32) * nI (v 12) = nI (2 * (v 12)) := pk_mul 2 (v 12)
  have eo : jmin (60000 : Int32) (nI (2 * (v 12))) = nI (bkO v) := jmin_nI (a := 60000) (by decide) (by omega)
  have ob' : 1000 ≤ bkO v ∧ bkO v ≤ 60000 := by unfold bkO; omega
  have i0 : b0 = b0 + nI 0 := (Int32.add_zero b0).symm
  have b4 := ok_ne c10 (xw_ok304 hW) (by decide)
  -- what is noted
  generalize hB1 : sF (sF (sF (sF (sF (sF (sF A 789 (342 + 4 * k) 0) 791 (342 + 4 * k) (nI (x + 1))) 779 (342 + 4 * k) (nI (v 9))) 786 (342 + 4 * k) 0) 792 (342 + 4 * k) 0) 781 (342 + 4 * k) (nI (bkO v))) 773 (342 + 4 * k) b0 = B1
  have F1 : FF (fun g => g = 773 ∨ g = 779 ∨ g = 781 ∨ g = 786 ∨ g = 789 ∨ g = 791 ∨ g = 792) (342 + 4 * k) A B1 := by
    subst hB1
    exact ((((((FF.s _ (by omega)).tr (FF.s _ (by omega))).tr (FF.s _ (by omega))).tr (FF.s _ (by omega))).tr (FF.s _ (by omega))).tr (FF.s _ (by omega))).tr (FF.s _ (by omega))
  have w73 : mF B1 773 (342 + 4 * k) = b0 := by subst hB1; simp only [mF_sF, reduceIte, Nat.reduceEqDiff, Nat.reduceAdd, Nat.reduceMul, Nat.reduceLT, Nat.reduceLeDiff, and_true, true_and, and_false, false_and, and_self, ne_eq, not_true_eq_false, not_false_eq_true, Option.some.injEq, reduceCtorEq]
  have w79 : mF B1 779 (342 + 4 * k) = nI (v 9) := by subst hB1; simp only [mF_sF, reduceIte, Nat.reduceEqDiff, Nat.reduceAdd, Nat.reduceMul, Nat.reduceLT, Nat.reduceLeDiff, and_true, true_and, and_false, false_and, and_self, ne_eq, not_true_eq_false, not_false_eq_true, Option.some.injEq, reduceCtorEq]
  have w81 : mF B1 781 (342 + 4 * k) = nI (bkO v) := by subst hB1; simp only [mF_sF, reduceIte, Nat.reduceEqDiff, Nat.reduceAdd, Nat.reduceMul, Nat.reduceLT, Nat.reduceLeDiff, and_true, true_and, and_false, false_and, and_self, ne_eq, not_true_eq_false, not_false_eq_true, Option.some.injEq, reduceCtorEq]
  have w86 : mF B1 786 (342 + 4 * k) = 0 := by subst hB1; simp only [mF_sF, reduceIte, Nat.reduceEqDiff, Nat.reduceAdd, Nat.reduceMul, Nat.reduceLT, Nat.reduceLeDiff, and_true, true_and, and_false, false_and, and_self, ne_eq, not_true_eq_false, not_false_eq_true, Option.some.injEq, reduceCtorEq]
  have w89 : mF B1 789 (342 + 4 * k) = 0 := by subst hB1; simp only [mF_sF, reduceIte, Nat.reduceEqDiff, Nat.reduceAdd, Nat.reduceMul, Nat.reduceLT, Nat.reduceLeDiff, and_true, true_and, and_false, false_and, and_self, ne_eq, not_true_eq_false, not_false_eq_true, Option.some.injEq, reduceCtorEq]
  have w91 : mF B1 791 (342 + 4 * k) = nI (x + 1) := by subst hB1; simp only [mF_sF, reduceIte, Nat.reduceEqDiff, Nat.reduceAdd, Nat.reduceMul, Nat.reduceLT, Nat.reduceLeDiff, and_true, true_and, and_false, false_and, and_self, ne_eq, not_true_eq_false, not_false_eq_true, Option.some.injEq, reduceCtorEq]
  have w92 : mF B1 792 (342 + 4 * k) = 0 := by subst hB1; simp only [mF_sF, reduceIte, Nat.reduceEqDiff, Nat.reduceAdd, Nat.reduceMul, Nat.reduceLT, Nat.reduceLeDiff, and_true, true_and, and_false, false_and, and_self, ne_eq, not_true_eq_false, not_false_eq_true, Option.some.injEq, reduceCtorEq]
  have FB : ∀ g, ¬ (g = 773 ∨ g = 779 ∨ g = 781 ∨ g = 786 ∨ g = 789 ∨ g = 791 ∨ g = 792) → mF B1 g (342 + 4 * k) = mF A g (342 + 4 * k) := fun g hg => F1.2.2.2.2 g _ (fun e => hg e.1)
  generalize hN0 : sF (sF (sF (sF (sF (sF M 325 (c + 5) (nI (x + 1))) 321 (c + 5) (nI (v 9))) 327 (c + 5) 0) 326 (c + 5) 0) 323 (c + 5) (nI (bkO v))) 324 (c + 5) (nI (nw + bkO v)) = N0
  have G0 : FF (fun g => 321 ≤ g ∧ g ≤ 327) (c + 5) M N0 := by
    subst hN0
    exact (((((FF.s _ (by omega)).tr (FF.s _ (by omega))).tr (FF.s _ (by omega))).tr (FF.s _ (by omega))).tr (FF.s _ (by omega))).tr (FF.s _ (by omega))
  have y25 : mF N0 325 (c + 5) = nI (x + 1) := by subst hN0; simp only [mF_sF, reduceIte, Nat.reduceEqDiff, Nat.reduceAdd, Nat.reduceMul, Nat.reduceLT, Nat.reduceLeDiff, and_true, true_and, and_false, false_and, and_self, ne_eq, not_true_eq_false, not_false_eq_true, Option.some.injEq, reduceCtorEq]
  have y21 : mF N0 321 (c + 5) = nI (v 9) := by subst hN0; simp only [mF_sF, reduceIte, Nat.reduceEqDiff, Nat.reduceAdd, Nat.reduceMul, Nat.reduceLT, Nat.reduceLeDiff, and_true, true_and, and_false, false_and, and_self, ne_eq, not_true_eq_false, not_false_eq_true, Option.some.injEq, reduceCtorEq]
  have y27 : mF N0 327 (c + 5) = 0 := by subst hN0; simp only [mF_sF, reduceIte, Nat.reduceEqDiff, Nat.reduceAdd, Nat.reduceMul, Nat.reduceLT, Nat.reduceLeDiff, and_true, true_and, and_false, false_and, and_self, ne_eq, not_true_eq_false, not_false_eq_true, Option.some.injEq, reduceCtorEq]
  have y26 : mF N0 326 (c + 5) = 0 := by subst hN0; simp only [mF_sF, reduceIte, Nat.reduceEqDiff, Nat.reduceAdd, Nat.reduceMul, Nat.reduceLT, Nat.reduceLeDiff, and_true, true_and, and_false, false_and, and_self, ne_eq, not_true_eq_false, not_false_eq_true, Option.some.injEq, reduceCtorEq]
  have y23 : mF N0 323 (c + 5) = nI (bkO v) := by subst hN0; simp only [mF_sF, reduceIte, Nat.reduceEqDiff, Nat.reduceAdd, Nat.reduceMul, Nat.reduceLT, Nat.reduceLeDiff, and_true, true_and, and_false, false_and, and_self, ne_eq, not_true_eq_false, not_false_eq_true, Option.some.injEq, reduceCtorEq]
  have y24 : mF N0 324 (c + 5) = nI (nw + bkO v) := by subst hN0; simp only [mF_sF, reduceIte, Nat.reduceEqDiff, Nat.reduceAdd, Nat.reduceMul, Nat.reduceLT, Nat.reduceLeDiff, and_true, true_and, and_false, false_and, and_self, ne_eq, not_true_eq_false, not_false_eq_true, Option.some.injEq, reduceCtorEq]
  have y22 : mF N0 322 (c + 5) = mF M 322 (c + 5) := by subst hN0; simp only [mF_sF, reduceIte, Nat.reduceEqDiff, Nat.reduceAdd, Nat.reduceMul, Nat.reduceLT, Nat.reduceLeDiff, and_true, true_and, and_false, false_and, and_self, ne_eq, not_true_eq_false, not_false_eq_true, Option.some.injEq, reduceCtorEq]
  have hWN0 := G0.xW hW
  have hCN0 := G0.cN hC
  have cntM := x_cnt hWN0 (i := 3) (by decide)
  generalize hN1 : wA N0 305 (cnU (mA N0 305) 3) = N1 at cntM
  generalize hN2 : sF N1 328 (c + 5) 0 = N2
  have n2 : mS N2 = mS M ∧ mG N2 = mG M ∧ mB N2 = mB M ∧ (∀ a, a ≠ 305 → mA N2 a = mA M a) ∧ mA N2 305 = cnU (mA M 305) 3 ∧ (∀ g o, ¬ ((321 ≤ g ∧ g ≤ 328) ∧ o = c + 5) → mF N2 g o = mF M g o) ∧ (∀ g, 321 ≤ g → g ≤ 327 → mF N2 g (c + 5) = mF N0 g (c + 5)) ∧ mF N2 328 (c + 5) = 0 := by
    subst hN2 hN1
    refine ⟨G0.1, G0.2.1, G0.2.2.1, fun a ha => ?_, ?_, fun g o ho => ?_, fun g h1 h2 => ?_, ?_⟩
    · rw [mA_sF, mA_wA_ne ha, G0.2.2.2.1]
    · rw [mA_sF, mA_wA_self, G0.2.2.2.1]
    · rw [mF_sF, if_neg (fun e => ho ⟨by omega, e.2⟩), mF_wA]
      exact G0.2.2.2.2 g o (fun e => ho ⟨by omega, e.2⟩)
    · rw [mF_sF, if_neg (fun e => by omega), mF_wA]
    · rw [mF_sF, if_pos ⟨rfl, rfl⟩]
  obtain ⟨nS, nG, nB, nA', n305, nF, n27, n328⟩ := n2
  have hWN2 : XW N2 := XW_sg nS nG hW
  have hCN2 : CnO N2 c := CnO_sg nS nG hC
  have FN : ∀ g o, o ≠ c + 5 → mF N2 g o = mF M g o := fun g o ho => nF g o (fun e => ho e.2)
  have jl1 : JL0 KN KS t T B1 N2 := JL0_cn h.jl hC F1.1 F1.2.1 F1.2.2.1 (fun f a hf => F1.2.2.2.2 f a (fun e => by unfold JLf at hf; omega)) (fun a _ => by rw [F1.2.2.2.1]) nS nG nB (fun f a _ _ n3 _ => FN f a n3) (fun a _ _ _ n5 _ _ _ => nA' a n5)
  have e4 : hldA B1 k = hldX N2 c := by
    unfold hldA hldX
    rw [FB 804 (by omega), FB 803 (by omega), FB 809 (by omega), FN 1 _ (by omega), FN 0 _ (by omega), FN 8 _ (by omega), hr.nx, hr.rd, hr.fT]
  have eopA : hldA B1 k = nI hd := by
    rw [← hldA_nI hr]
    unfold hldA
    rw [FB 804 (by omega), FB 803 (by omega), FB 809 (by omega)]
  have st1 : mF N2 64 c = 1 := by rw [FN 64 c (by omega), ← hE.st, hS.st, hst]; rfl
  obtain ⟨A2, M2, T', r1, r2, r3, r4, r5, r6, r7⟩ := sp_sendSyn fu (by omega) jl1 (F1.by' h.ba.2.2.2.2) hT2 hCN2 hk (by rw [FB 769 (by omega), FN 65 c (by omega)]; exact hE.ip) (by rw [FB 770 (by omega), FN 66 c (by omega)]; exact hE.po) (by rw [FB 804 (by omega), FN 1 _ (by omega)]; exact hr.nx) e4 st1 b0
  have hRB := F1.rW hR
  have hAB := rw_cnO hRB k hk
  have hR2 := r5.1
  have hA2 := rw_cnO hR2 k hk
  have F2 : ∀ g a, g < 896 → mF A2 g a = mF B1 g a := fun g a hh => r6.2.2.2.1 g a hh
  have e4096 : (4096 : Int32) - nI hd = nI (4096 - hd) := nI_sub (x := 4096) hd1
  have eop2 : hldA (sF A2 807 (342 + 4 * k) 0) k = nI hd := by
    rw [← eopA]
    unfold hldA
    simp only [mF_sF, reduceIte, Nat.reduceEqDiff, Nat.reduceAdd, Nat.reduceMul, Nat.reduceLT, Nat.reduceLeDiff, and_true, true_and, and_false, false_and, and_self, ne_eq, not_true_eq_false, not_false_eq_true, Option.some.injEq, reduceCtorEq]
    rw [F2 _ _ (by decide), F2 _ _ (by decide), F2 _ _ (by decide)]
  have hpay : fX16_pays fu 323 (some (342 + 4 * k)) A2 = some (sF (sF A2 807 (342 + 4 * k) 0) 805 (342 + 4 * k) (nI (4096 - hd))) := by
    unfold fX16_pays
    rw [pZ_ok hA2 (Or.inl rfl), ob_some, rc_ok (by rw [ok_sF]; exact hA2), ob_some, m_open (A := sF A2 807 (342 + 4 * k) 0) hR2 hk, b2_some, eop2, e4096, pF_ok (by rw [ok_sF]; exact hA2), ob_some]
  generalize hA3 : sF (sF A2 807 (342 + 4 * k) 0) 805 (342 + 4 * k) (nI (4096 - hd)) = A3 at hpay
  have F3 : FF (fun g => g = 805 ∨ g = 807) (342 + 4 * k) A2 A3 := by subst hA3; exact (FF.s _ (by omega)).tr (FF.s _ (by omega))
  have v805 : mF A3 805 (342 + 4 * k) = nI (4096 - hd) := by subst hA3; simp only [mF_sF, reduceIte, Nat.reduceEqDiff, Nat.reduceAdd, Nat.reduceMul, Nat.reduceLT, Nat.reduceLeDiff, and_true, true_and, and_false, false_and, and_self, ne_eq, not_true_eq_false, not_false_eq_true, Option.some.injEq, reduceCtorEq]
  have v807 : mF A3 807 (342 + 4 * k) = 0 := by subst hA3; simp only [mF_sF, reduceIte, Nat.reduceEqDiff, Nat.reduceAdd, Nat.reduceMul, Nat.reduceLT, Nat.reduceLeDiff, and_true, true_and, and_false, false_and, and_self, ne_eq, not_true_eq_false, not_false_eq_true, Option.some.injEq, reduceCtorEq]
  have hR3 := F3.rW hR2
  have F3A : ∀ g, g < 896 → ¬ (g = 773 ∨ g = 779 ∨ g = 781 ∨ g = 786 ∨ g = 789 ∨ g = 791 ∨ g = 792 ∨ g = 805 ∨ g = 807) → mF A3 g (342 + 4 * k) = mF A g (342 + 4 * k) := fun g h1 h2 => by rw [F3.2.2.2.2 g _ (by omega), F2 g _ h1, FB g (by omega)]
  have F3B : ∀ g, g < 896 → ¬ (g = 805 ∨ g = 807) → mF A3 g (342 + 4 * k) = mF B1 g (342 + 4 * k) := fun g h1 h2 => by rw [F3.2.2.2.2 g _ (by omega), F2 g _ h1]
  have now3 : (mF A3 1034 323) = nI nw := by
    rw [F3.2.2.2.2 _ _ (by omega), r6.2.2.2.2.1 _ _ (by decide) (by decide) (by decide) (by decide), F1.2.2.2.2 _ _ (by omega)]; exact h.nw
  have hIw : CIw A3 k nw t im b0 (fun i => if i = 2 then 0 else if i = 10 then (v 9) else if i = 12 then bkO v else if i = 14 then 0 else v i) := by
    refine CIw.mk ((F3A 797 (by decide) (by omega)).trans hI.bg) ((F3A 772 (by decide) (by omega)).trans hI.una) ?_ ((F3A 774 (by decide) (by omega)).trans hI.max) ?_ ?_ hI.mL ((F3A 794 (by decide) (by omega)).trans hI.hl) hI.hl1 ((F3A 796 (by decide) (by omega)).trans hI.bl) hI.bl1 ?_ ((F3A 798 (by decide) (by omega)).trans hI.cl) hI.cl1 ((F3A 799 (by decide) (by omega)).trans hI.fn) hI.fn1 hI.fnI ((F3A 778 (by decide) (by omega)).trans hI.ms) hI.ms1 ((F3B 779 (by decide) (by omega)).trans w79) ?_ ((F3A 780 (by decide) (by omega)).trans hI.ss) hI.ss1 ((F3B 781 (by decide) (by omega)).trans w81) ob' ((F3A 775 (by decide) (by omega)).trans hI.wi) hI.wi1 ((F3B 789 (by decide) (by omega)).trans w89) (Nat.zero_le _) ?_ ((F3A 785 (by decide) (by omega)).trans hI.ti) hI.ti1 ?_ ((F3A 784 (by decide) (by omega)).trans hI.me) hI.me1 ?_
    · rw [F3B 773 (by decide) (by omega), w73]; exact i0
    · show (v 1) ≤ 0
      omega
    · exact Nat.zero_le _
    · intro z
      rw [F3A 795 (by decide) (by omega)]; exact hI.bp z
    · show 64 ≤ (v 9) ∧ (v 9) ≤ 70000
      omega
    · intro z
      exact absurd (show (0 : Nat) = 1 from z) (by decide)
    · intro z
      rw [F3A 787 (by decide) (by omega), F3A 788 (by decide) (by omega)]
      exact ⟨(hI.tn z).2.1, (hI.tn z).2.2.2.2.1⟩
    · rw [F3A 782 (by decide) (by omega), F3A 783 (by decide) (by omega)]; exact hI.sv
  obtain ⟨w', hw'⟩ := ntd_ex (fun i => if i = 2 then 0 else if i = 10 then (v 9) else if i = 12 then bkO v else if i = 14 then 0 else v i) nw 0
  obtain ⟨A4, n1, q2, q3, q4, q5, q6, q7, q8, q9, q10⟩ := m_noted fu hR3 hk hIw now3 (f := 0) (Nat.zero_le _) hw'
  rw [← i0] at n1
  have lt01 : (0 : Nat) < (v 3) := by omega
  have q5 : mA A4 = mA (wA A3 330 (cn3 (mA A3 330))) := by rw [q5]; exact congrArg mA (if_pos lt01)
  obtain ⟨-, -, -, -, -, -, -, -, -, -, -, -, -, -, w15, w16, w17, -⟩ := hw'
  have w17' : (w' 16) = 0 := w17.trans (if_pos lt01)
  have w16' : (w' 15) = nw + bkO v := w16
  have hR4 : RW A4 := RW_of q2 q3 q4 hR3
  have hA4 := rw_cnO hR4 k hk
  have F4 : ∀ g, ¬ (g = 785 ∨ (787 ≤ g ∧ g ≤ 790)) → mF A4 g (342 + 4 * k) = mF A3 g (342 + 4 * k) := fun g hg => q6 g _ (by omega)
  generalize hA5 : sF A4 773 (342 + 4 * k) (b0 + 1) = A5
  have F5 : FF (fun g => g = 773) (342 + 4 * k) A4 A5 := by subst hA5; exact FF.s _ rfl
  have x73 : mF A5 773 (342 + 4 * k) = b0 + 1 := by subst hA5; simp only [mF_sF, reduceIte, Nat.reduceEqDiff, Nat.reduceAdd, Nat.reduceMul, Nat.reduceLT, Nat.reduceLeDiff, and_true, true_and, and_false, false_and, and_self, ne_eq, not_true_eq_false, not_false_eq_true, Option.some.injEq, reduceCtorEq]
  have hR5 := F5.rW hR4
  have hA5' := rw_cnO hR5 k hk
  have F5A : ∀ g, g < 896 → ¬ (g = 773 ∨ g = 779 ∨ g = 781 ∨ g = 785 ∨ g = 786 ∨ (787 ≤ g ∧ g ≤ 792) ∨ g = 805 ∨ g = 807) → mF A5 g (342 + 4 * k) = mF A g (342 + 4 * k) := fun g h1 h2 => by rw [F5.2.2.2.2 g _ (by omega), F4 g (by omega), F3A g h1 (by omega)]
  have F5B : ∀ g, g < 896 → ¬ (g = 773 ∨ g = 785 ∨ (787 ≤ g ∧ g ≤ 790) ∨ g = 805 ∨ g = 807) → mF A5 g (342 + 4 * k) = mF B1 g (342 + 4 * k) := fun g h1 h2 => by rw [F5.2.2.2.2 g _ (by omega), F4 g (by omega), F3B g h1 (by omega)]
  have x74 : mF A5 774 (342 + 4 * k) = b0 + 1 := by rw [F5A 774 (by decide) (by omega), hI.max, sm]; rfl
  have x85 : mF A5 785 (342 + 4 * k) = 0 := by rw [F5.2.2.2.2 785 _ (by omega), q7, w17']; rfl
  have x89 : mF A5 789 (342 + 4 * k) = 1 := by rw [F5.2.2.2.2 789 _ (by omega), q9]; rfl
  have x90 : mF A5 790 (342 + 4 * k) = nI (nw + bkO v) := by rw [F5.2.2.2.2 790 _ (by omega), q10, w16']
  have x81 : mF A5 781 (342 + 4 * k) = nI (bkO v) := (F5B 781 (by decide) (by omega)).trans w81
  have now5 : mF A5 1034 323 = nI nw := by rw [F5.2.2.2.2 1034 323 (by omega), q6 1034 323 (by omega)]; exact now3
  have ts : fX16_timerSet fu 323 (some (342 + 4 * k)) A5 = some A5 := by
    unfold fX16_timerSet
    rw [pZ_ok hA5' (Or.inr rfl), ob_some, sF_id x89, gI_ok (rw_ok323 hR5), ob_some, gI_ok hA5', ob_some, now5, x81, nI_add, pF_ok hA5', ob_some, sF_id x90]
  have b71 : mF B1 771 (342 + 4 * k) = b0 := (FB 771 (by omega)).trans siss
  have sy : fX16_synAck fu 323 (some (342 + 4 * k)) B1 = some A5 := by
    have v71 : mF A3 771 (342 + 4 * k) = b0 := (F3B 771 (by decide) (by omega)).trans b71
    have v71' : mF A4 771 (342 + 4 * k) = b0 := (F4 771 (by omega)).trans v71
    have nlt : ¬ (b0 + 1) - (b0 + 1) < (0 : Int32) := by rw [Int32.sub_self]; decide
    unfold fX16_synAck
    rw [gI_ok hAB, ob_some, gI_ok hAB, ob_some, gI_ok hAB, ob_some, b71, gI_ok hAB, ob_some, rc_ok hAB, ob_some, m_open hRB hk, b2_some, rc_ok (rw_ok323 hRB), ob_some, r1, ob_some, rc_ok (rw_ok323 hR2), ob_some, hpay, ob_some, gI_ok (rw_cnO hR3 k hk), ob_some, v71, rc_ok (rw_ok323 hR3), ob_some, n1, ob_some, gI_ok hA4, ob_some, v71', pF_ok hA4, ob_some, hA5, gI_ok hA5', ob_some, x74, gI_ok hA5', ob_some, x73, m_before, b2_some, if_neg nlt, if_pos rfl]
  have runA : fX16_runOut fu 323 (some (342 + 4 * k)) A = some A5 := by
    have st' : mF A 768 (342 + 4 * k) = 1 := by rw [hS.st, hst]; rfl
    have z0 : ∀ (B : Mm) f, okA B 12 (342 + 4 * k) → pZ B 12 f (some (342 + 4 * k)) 0 = some (sF B f (342 + 4 * k) 0) := fun B f h => pZ_ok h (Or.inl rfl)
    have le5 : (nI (x + 1) : Int32) ≤ (5 : Int32) := nI_le (b := 5) hx5 (by decide)
    have un : mF A 772 (342 + 4 * k) = b0 := by rw [hI.una, su]; exact i0.symm
    unfold fX16_runOut fX16_runOut_L33 fX16_runOut_L114 fX16_runOut_L198
    simp only [z0, pF_ok, gI_ok, hA, ok_sF, ob_some, mF_sF, reduceIte, Nat.reduceEqDiff, Nat.reduceAdd, Nat.reduceMul, Nat.reduceLT, Nat.reduceLeDiff, and_true, true_and, and_false, false_and, and_self, ne_eq, not_true_eq_false, not_false_eq_true, Option.some.injEq, reduceCtorEq, hx, ex, st', le5, if_true, hI.ms, hI.ro, e3, eo, un]
    rw [hB1, rc_ok (rw_ok323 hRB), ob_some, sy, ob_some, rc_ok (rw_ok323 hR5), ob_some, ts, ob_some]
  have runX : fX9_runOut fu 317 (some c) M = some M2 := by
    have st' : mF M 64 c = 1 := by rw [← hE.st, hS.st, hst]; rfl
    have z0 : ∀ (B : Mm) f, okA B 5 (c + 5) → pZ B 5 f (some (c + 5)) 0 = some (sF B f (c + 5) 0) := fun B f h => pZ_ok h (Or.inl rfl)
    have le5 : (nI (x + 1) : Int32) ≤ (5 : Int32) := nI_le (b := 5) hx5 (by decide)
    have xt : mF M 325 (c + 5) = nI x := hP.tr.symm.trans hx
    have xs : mF M 320 (c + 5) = nI (v 9) := hP.ms.symm.trans hI.ms
    have xo : mF M 323 (c + 5) = nI (v 12) := hP.ro.symm.trans hI.ro
    have xn : mF M 641 304 = nI nw := h.wnow
    have o317 := xw_ok317 hW
    have o304 := xw_ok304 hW
    have g576 := xw_g576_317 hW
    have c1N0 := hCN0.1
    have i67 : mF N2 67 c = b0 := by rw [FN 67 c (by omega), ← hE.is]; exact siss
    have hW1 : XW N1 := by subst hN1; exact hWN0
    have hC1 : CnO N1 c := by subst hN1; exact hCN0
    unfold fX9_runOut fX9_runOut_L13 fX9_runOut_L44 fX9_runOut_L96 fX5_backOff
    simp only [z0, pF_ok, gI_ok, gR_ok, rc_ok, c1, c14, o317, o304, ok_sF, ob_some, mF_sF, mG_sF, c4, g576, reduceIte, Nat.reduceEqDiff, Nat.reduceAdd, Nat.reduceMul, Nat.reduceLT, Nat.reduceLeDiff, and_true, true_and, and_false, false_and, and_self, ne_eq, not_true_eq_false, not_false_eq_true, Option.some.injEq, reduceCtorEq, xt, ex, st', le5, if_true, xs, xo, e3, eo, xn, nI_add, show ((1 : Int32) = 0) = False from eq_false (by decide)]
    rw [hN0, xw_g640_304 hW, show gA N0 101 (some 305) (3 : Int32) = some (mA N0 305 3) from cntM.1, ob_some, show pA N0 101 (some 305) (3 : Int32) (mA N0 305 3 + 1) = some N1 from cntM.2, ob_some, gR_ok hC1.1, ob_some, hC1.2.2.2.1, z0 N1 328 hC1.2.2.2.2.2.2.2.2.2.2.2.2.2, ob_some, hN2, gI_ok hCN2.1, ob_some, i67, rc_ok (xw_ok317 hWN2), ob_some, r2, ob_some]
  -- what is left of the connection in the class
  have hCp : CnO (payX N2 c 18) c := CnO_sg payX_S payX_G hCN2
  have hWp : XW (payX N2 c 18) := XW_sg payX_S payX_G hWN2
  obtain ⟨g1, g2, g3, g4⟩ := FrM_at hWp hCp r7
  rw [payX_A, nA' (c + 1) (ok_ne c5 (xw_ok305 hW) (by decide))] at g2
  rw [payX_A, nA' (c + 3) (ok_ne c10 (xw_ok305 hW) (by decide))] at g3
  rw [payX_A, nA' (c + 4) (by omega)] at g4
  have ZF : ∀ g o, o = c ∨ o = c + 2 ∨ o = c + 5 → g < 256 ∨ (320 ≤ g ∧ g < 640) → ¬ ((g = 2 ∨ g = 4) ∧ o = c + 2) → mF M2 g o = mF N2 g o := fun g o h1 h2 h3 => (g1 g o h1 h2).trans (payX_F (fun e => h3 ⟨Or.inl e.1, e.2⟩) (fun e => h3 ⟨Or.inr e.1, e.2⟩))
  have told' : mF M2 2 (c + 2) = nI (4096 - hd) := by
    rw [g1 2 (c + 2) (Or.inr (Or.inl rfl)) (Or.inl (by decide))]
    unfold payX
    rw [if_pos (by decide)]
    simp only [mF_sF, reduceIte, Nat.reduceEqDiff, Nat.reduceAdd, Nat.reduceMul, Nat.reduceLT, Nat.reduceLeDiff, and_true, true_and, and_false, false_and, and_self, ne_eq, not_true_eq_false, not_false_eq_true, Option.some.injEq, reduceCtorEq]
    rw [← e4, eopA, e4096]
  have owed' : mF M2 4 (c + 2) = 0 := by
    rw [g1 4 (c + 2) (Or.inr (Or.inl rfl)) (Or.inl (by decide))]
    unfold payX
    rw [if_pos (by decide)]
    simp only [mF_sF, reduceIte, Nat.reduceEqDiff, Nat.reduceAdd, Nat.reduceMul, Nat.reduceLT, Nat.reduceLeDiff, and_true, true_and, and_false, false_and, and_self, ne_eq, not_true_eq_false, not_false_eq_true, Option.some.injEq, reduceCtorEq]
  have FC' : ∀ g, ¬ 256 ≤ g → mF M2 g c = mF M g c := fun g hg => by rw [ZF g c (Or.inl rfl) (by omega) (by omega), FN g c (by omega)]
  have FP5 : ∀ g, 320 ≤ g → g < 384 → mF M2 g (c + 5) = mF N2 g (c + 5) := fun g h1 h2 => ZF g _ (Or.inr (Or.inr rfl)) (by omega) (by omega)
  have aA : ∀ a, a < 331 ∨ (334 < a ∧ a < 422) → a ≠ 330 → mA A5 a = mA A a := fun a ha hn => by rw [F5.2.2.2.1, q5, mA_wA_ne hn, F3.2.2.2.1, r6.2.2.2.2.2.1 a (by omega) (by omega), F1.2.2.2.1]
  have a330 : mA A5 330 = cn3 (mA A 330) := by
    rw [F5.2.2.2.1, q5, mA_wA_self, F3.2.2.2.1, r6.2.2.2.2.2.1 330 (by omega) (by omega), F1.2.2.2.1]
  have x305 : mA M2 305 = cnU (mA M 305) 3 := by
    have lt := (xw_ok305 hWp).2.1
    have := r7.gen.2.2.2.2.2 305 lt (by unfold QLx; rw [(xw_ok304 hWp).2.2]; omega)
    rw [this, payX_A]; exact n305
  have fA : FCA k A A5 := by
    have h1 : FCA k A B1 := F1.ca (by intro f hf; omega)
    have h3 : FCA k A2 A3 := F3.ca (by intro f hf; omega)
    have h4 : FCA k A3 A4 := ⟨q2, q3, q4, fun f a n => q6 f a (fun e => n (by unfold PCa; omega)), fun a n => by rw [q5]; exact mA_wA_ne (fun e => n (by unfold QCa; omega)), by rw [q6 1049 323 (by omega)]; exact Int32.le_refl _⟩
    exact ((h1.tr r6.ca).tr h3).tr (h4.tr (F5.ca (by intro f hf; omega)))
  have fM : FCM c M M2 := by
    have h1 : FCM c M N2 := ⟨by rw [nS]; exact Nat.le_refl _, fun a _ => by rw [nS]; exact ⟨rfl, rfl⟩, fun f a _ _ => by rw [nG], fun a _ _ => by rw [nB], fun f a _ n => FN f a (fun e => n (by unfold PCx; omega)), fun a _ n => nA' a (fun e => n (by unfold QCx; omega))⟩
    have h2 : FCM c N2 (payX N2 c 18) := ⟨by rw [payX_S]; exact Nat.le_refl _, fun a _ => by rw [payX_S]; exact ⟨rfl, rfl⟩, fun f a _ _ => by rw [payX_G], fun a _ _ => by rw [payX_B], fun f a _ n => payX_F (fun e => n (by unfold PCx; omega)) (fun e => n (by unfold PCx; omega)), fun a _ _ => by rw [payX_A]⟩
    exact (h1.tr h2).tr r7.cm
  refine ⟨A5, M2, T', fun i => if i = 10 then (v 9) else if i = 12 then bkO v else if i = 14 then 1 else if i = 15 then nw + bkO v else if i = 16 then 0 else v i, runA, runX, r3, r4, ?_, fA, fM, fun g hg => F5A g (by omega) (by omega), (F5B 791 (by decide) (by omega)).trans w91, ?_⟩
  · have FA' : ∀ g, ¬ (896 ≤ g ∨ g = 773 ∨ g = 779 ∨ g = 781 ∨ g = 785 ∨ g = 786 ∨ (787 ≤ g ∧ g ≤ 792) ∨ g = 805 ∨ g = 807) → mF A5 g (342 + 4 * k) = mF A g (342 + 4 * k) := fun g hg => F5A g (by omega) (by omega)
    refine TK.mk ?_ (oX16_runOut fu 323 _ A h.ba (by unfold RM; omega) (inR_some (by unfold RM; omega)) runA).2 (oX9_runOut fu 317 _ M h.bm (by unfold RX; omega) (inR_some (h.bm.1 c 1 c1 (by unfold TX; omega))) runX).2 ?_ (JI_fc hW hC fA fM h.ji) (CnO_fr fM hC) ?_ ?_ ?_ ?_ ?_ now5 h.n2
    · have hC2 : CnO M2 c := CnO_fr fM hC
      refine JL0_cn r5 hC2 (F5.1.trans (q2.trans F3.1)) (F5.2.1.trans (q3.trans F3.2.1)) (F5.2.2.1.trans (q4.trans F3.2.2.1)) (fun f a hf => ?_) (fun a ha => ?_) rfl rfl rfl (fun _ _ _ _ _ _ => rfl) (fun _ _ _ _ _ _ _ _ => rfl)
      · rw [F5.2.2.2.2 f a (fun e => by unfold JLf at hf; omega), q6 f a (fun e => by unfold JLf at hf; omega), F3.2.2.2.2 f a (fun e => by unfold JLf at hf; omega)]
      · rw [F5.2.2.2.1, q5, mA_wA_ne (by omega), F3.2.2.2.1]
    · intro i hi
      rw [a330, x305]
      unfold cn3 cnU
      by_cases q : i = 3
      · rw [if_pos q, if_pos q, h.jn 3 (by decide)]
      · rw [if_neg q, if_neg q]; exact h.jn i hi
    · have hdA : mA A5 (343 + 4 * k) = mA A (343 + 4 * k) := aA _ (by omega) (by omega)
      have hdM : mA M2 (c + 1) = mA M (c + 1) := g2
      refine CE.mk ?_ ?_ ?_ ?_ ?_ ?_ ?_ ?_ ?_ ?_ ?_ ?_ ?_ ?_ ?_ ?_ ?_ ?_
      · exact (FA' 768 (by omega)).trans (hE.st.trans (FC' 64 (by omega)).symm)
      · exact (FA' 769 (by omega)).trans (hE.ip.trans (FC' 65 (by omega)).symm)
      · exact (FA' 770 (by omega)).trans (hE.po.trans (FC' 66 (by omega)).symm)
      · exact (FA' 771 (by omega)).trans (hE.is.trans (FC' 67 (by omega)).symm)
      · exact (FA' 772 (by omega)).trans (hE.una.trans (FC' 68 (by omega)).symm)
      · rw [x73, FC' 69 (by omega), ← hE.at', hI.at', sa]; rfl
      · exact (FA' 774 (by omega)).trans (hE.max.trans (FC' 70 (by omega)).symm)
      · exact (FA' 775 (by omega)).trans (hE.wi.trans (FC' 71 (by omega)).symm)
      · exact (FA' 776 (by omega)).trans (hE.w1.trans (FC' 82 (by omega)).symm)
      · exact (FA' 777 (by omega)).trans (hE.w2.trans (FC' 83 (by omega)).symm)
      · exact (FA' 794 (by omega)).trans (hE.hl.trans (FC' 78 (by omega)).symm)
      · exact (FA' 796 (by omega)).trans (hE.bl.trans (FC' 76 (by omega)).symm)
      · rw [FA' 796 (by omega), FA' 795 (by omega), FC' 75 (by omega)]; exact hE.bp
      · exact (FA' 797 (by omega)).trans (hE.bg.trans (FC' 77 (by omega)).symm)
      · exact (FA' 798 (by omega)).trans (hE.cl.trans (FC' 74 (by omega)).symm)
      · rw [FA' 768 (by omega), FA' 812 (by omega), FC' 73 (by omega)]; exact hE.la
      · rw [FA' 768 (by omega), FA' 813 (by omega), FC' 72 (by omega)]; exact hE.li
      · rw [FA' 794 (by omega), hdA, hdM]; exact hE.hd
    · refine CP.mk ?_ ?_ ?_ ?_ ?_ ?_ ?_ ?_ ?_ ?_ ?_ ?_
      · rw [FA' 778 (by omega), FP5 320 (by decide) (by decide), nF 320 _ (by omega)]; exact hP.ms
      · rw [F5B 779 (by decide) (by omega), w79, FP5 321 (by decide) (by decide), n27 321 (by decide) (by decide), y21]
      · rw [FA' 780 (by omega), FP5 322 (by decide) (by decide), n27 322 (by decide) (by decide), y22]; exact hP.ss
      · rw [x81, FP5 323 (by decide) (by decide), n27 323 (by decide) (by decide), y23]
      · rw [F5B 791 (by decide) (by omega), w91, FP5 325 (by decide) (by decide), n27 325 (by decide) (by decide), y25]
      · rw [F5B 792 (by decide) (by omega), w92, FP5 326 (by decide) (by decide), n27 326 (by decide) (by decide), y26]
      · rw [F5B 786 (by decide) (by omega), w86, FP5 327 (by decide) (by decide), n27 327 (by decide) (by decide), y27]
      · rw [x85, FP5 328 (by decide) (by decide), n328]
      · intro z
        exact absurd x85 z
      · rw [FA' 784 (by omega), FP5 331 (by decide) (by decide), nF 331 _ (by omega)]; exact hP.me
      · rw [FA' 784 (by omega), FA' 782 (by omega), FA' 783 (by omega), FP5 332 (by decide) (by decide), nF 332 _ (by omega), FP5 333 (by decide) (by decide), nF 333 _ (by omega)]; exact hP.sv
      · right
        rw [x89, x90, FP5 324 (by decide) (by decide), n27 324 (by decide) (by decide), y24]
        exact ⟨rfl, rfl⟩
    · refine CI.mk ?_ ?_ ?_ ?_ ?_ ?_ ?_ ?_ ?_ ?_ ?_ ?_ ?_ ?_ ?_ ?_ ?_ ?_ ?_ ?_ ?_ ?_ ?_ ?_ ?_ ?_ ?_ ?_ ?_ ?_ ?_ ?_ ?_ ?_ ?_ ?_
      · exact (FA' 797 (by omega)).trans hI.bg
      · exact (FA' 772 (by omega)).trans hI.una
      · rw [x73, sa]; rfl
      · exact (FA' 774 (by omega)).trans hI.max
      · exact hI.ua
      · exact hI.am
      · exact hI.mL
      · exact (FA' 794 (by omega)).trans hI.hl
      · exact hI.hl1
      · exact (FA' 796 (by omega)).trans hI.bl
      · exact hI.bl1
      · rw [FA' 795 (by omega)]; exact hI.bp
      · exact (FA' 798 (by omega)).trans hI.cl
      · exact hI.cl1
      · exact (FA' 799 (by omega)).trans hI.fn
      · exact hI.fn1
      · exact hI.fnI
      · exact (FA' 778 (by omega)).trans hI.ms
      · exact hI.ms1
      · exact (F5B 779 (by decide) (by omega)).trans w79
      · show 64 ≤ (v 9) ∧ (v 9) ≤ 70000; omega
      · exact (FA' 780 (by omega)).trans hI.ss
      · exact hI.ss1
      · exact x81
      · exact ob'
      · exact (FA' 775 (by omega)).trans hI.wi
      · exact hI.wi1
      · exact x89
      · exact Nat.le_refl 1
      · intro _; exact ⟨x90, by show nw ≤ nw + bkO v; omega, by show nw + bkO v ≤ nw + 60000; omega, fun z => absurd su z⟩
      · exact x85
      · exact Nat.zero_le _
      · exact fun z => absurd (show (0 : Nat) = 1 from z) (by decide)
      · exact (FA' 784 (by omega)).trans hI.me
      · exact hI.me1
      · rw [FA' 782 (by omega), FA' 783 (by omega)]; exact hI.sv
    · refine CS.mk ?_ ?_ ?_ ?_ ?_ ?_ ?_ ?_ ?_
      · exact (FA' 768 (by omega)).trans hS.st
      · exact hS.st1
      · intro _; exact ⟨su, sa, sm, shl, sbl, scl, (FA' 771 (by omega)).trans siss, (F5B 786 (by decide) (by omega)).trans w86⟩
      · exact hS.sN1
      · exact hS.s27
      · exact hS.s358
      · exact hS.s46
      · rw [FA' 812 (by omega)]; exact hS.la
      · rw [FA' 813 (by omega)]; exact hS.si
    · exact CR_upd (fun g hh => FA' g (by omega)) (aA _ (by omega) (by omega)) (aA _ (by omega) (by omega)) (fun g h1 h2 h3 => by rw [ZF g _ (Or.inr (Or.inl rfl)) (by omega) (by omega), FN g _ (by omega)]) g3 g4 (((F5.2.2.2.2 805 _ (by omega)).trans ((F4 805 (by omega)).trans v805)).trans told'.symm) ⟨4096 - hd, by omega, (F5.2.2.2.2 805 _ (by omega)).trans ((F4 805 (by omega)).trans v805)⟩ (((F5.2.2.2.2 807 _ (by omega)).trans ((F4 807 (by omega)).trans v807)).trans owed'.symm) (by rw [FA' 768 (by omega)]; exact hr.st) hr
  · rw [a330]
    unfold cn3
    rw [if_neg (by decide)]
end Back5
