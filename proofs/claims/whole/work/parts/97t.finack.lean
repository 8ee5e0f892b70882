/-! ===== part 97t: our end is acknowledged; an acknowledgement, in both ===== -/
/-- a connection afterwards: it lives, or it is gone -/
def AckR (KN KS t T im ig k c nw : Nat) (A M A' M' : Mm) (b : Int32) : Prop := FCA k A A' ∧ FCM c M M' ∧ ((b = 1 ∧ ∃ hd ft b0 v, TK A' M' KN KS t T im ig k c nw hd ft b0 v ∧ v 0 ≠ 1) ∨ (b = 0 ∧ ((∃ hd ft b0 v, TK A' M' KN KS t T im ig k c nw hd ft b0 v) ∨ TD A' M' KN KS t T im ig k c nw)))
section FinAck
variable {A A' M M' : Mm}
theorem CW.cs {k nw t im : Nat} {b0 : Int32} {v : Nat → Nat} (hI : CI A k nw t im b0 v) (h : CW A k nw b0 v) (hq : ¬ ((v 8) = 1 ∧ (v 1) = (v 4) + (v 5) + 2) ∨ (v 0) = 4 ∨ (v 0) = 6) : CS A k nw b0 v := by
  have h1 := h.st1
  have hua := hI.ua
  have ham := hI.am
  have hmL := hI.mL
  have hcl := hI.cl1
  refine CS.mk h.st ⟨by omega, h1.2⟩ (fun e => by omega) (fun _ => h.u1) h.s27 (fun e => ⟨h.s358 e, ?_⟩) h.s46 (fun _ => h.la) h.si
  have := h.s358 e
  rcases hq with q | q
  · have : ¬ (v 1) = (v 4) + (v 5) + 2 := fun e2 => q ⟨this, e2⟩
    omega
  · omega
theorem sp_finAck (fu : Nat) {KN KS t T k c nw im ig hd ft : Nat} {b0 : Int32} {v : Nat → Nat} (h : TB A M KN KS t T im ig c nw) (hk : k < 16) (hE : CE A M k c) (hP : CP A M k c) (hI : CI A k nw t im b0 v) (hS : CW A k nw b0 v) (hr : CR A M k c hd ft) :
    ∃ A' M' b, fX16_acknowledgement_L235 fu 323 (some (342 + 4 * k)) A = some (b, A') ∧ fX9_isAcknowledged_L140 fu 317 (some c) M = some (b, M') ∧ AckR KN KS t T im ig k c nw A M A' M' b := by
  have hR := h.rw'
  have hW := h.xw
  have hA := rw_cnO hR k hk
  have o323 := rw_ok323 hR
  have hC := h.cn
  have c1 := hC.1
  have hs1 := hS.st1
  have b1 := hI.hl1
  have b2' := hI.bl1
  have hcl1 := hI.cl1
  have hfn1 := hI.fn1
  have hfnI := hI.fnI
  have hua := hI.ua
  have ham := hI.am
  have hmL := hI.mL
  have one0 : ¬ (1 : Int32) = 0 := by decide
  have ebh : fX12_behind fu (342 + 4 * k) A = some (b0 + nI (1 + (v 4) + (v 5)), A) := by
    unfold fX12_behind
    simp only [gI_ok hA, ob_some, hI.bg, hI.hl, hI.bl]
    rw [show b0 + 1 = b0 + nI 1 from rfl, Int32.add_assoc b0, nI_add, Int32.add_assoc b0, nI_add]
  have edE := x_dE (A := A) fu c1 hE hI
  have eq : (b0 + nI (v 1) = b0 + nI (1 + (v 4) + (v 5)) + 1) ↔ (v 1) = (v 4) + (v 5) + 2 := by
    rw [Int32.add_assoc, nI_1]
    exact ⟨fun e => by have := b0_inj (by omega) (by omega) e; omega, fun e => by rw [e]; congr 2; omega⟩
  have L318 : ∀ B, fX16_acknowledgement_L318 fu 323 (some (342 + 4 * k)) 0 B = some (1, B) := fun B => by unfold fX16_acknowledgement_L318; rw [if_pos rfl, rN1]
  have L260z : ∀ B, fX16_acknowledgement_L260 fu 323 (some (342 + 4 * k)) 0 B = some (1, B) := fun B => by
    unfold fX16_acknowledgement_L260 fX16_acknowledgement_L289
    rw [if_pos rfl, if_pos rfl]
    exact L318 B
  have ra : fX16_acknowledgement_L235 fu 323 (some (342 + 4 * k)) A = if (v 8) = 1 ∧ (v 1) = (v 4) + (v 5) + 2 then fX16_acknowledgement_L260 fu 323 (some (342 + 4 * k)) 1 A else some (1, A) := by
    unfold fX16_acknowledgement_L235 fX16_acknowledgement_L259
    rw [gI_ok hA, ob_some, hI.fn, gI_ok hA, ob_some, rc_ok hA, ob_some, ebh, b2_some, hI.una]
    by_cases q : (v 8) = 1
    · rw [if_neg (by rw [q]; decide)]
      by_cases q2 : (v 1) = (v 4) + (v 5) + 2
      · rw [if_pos (eq.mpr q2), if_pos ⟨q, q2⟩]
      · rw [if_neg (fun e => q2 (eq.mp e)), if_neg (fun e => q2 e.2)]
        exact L260z A
    · rw [if_pos (by rw [show (v 8) = 0 by omega]; rfl), if_neg (fun e => q e.1)]
      exact L260z A
  have L171 : ∀ B : Mm, okA B 1 c → (mF B 64 c) ≠ 0 → fX9_isAcknowledged_L171 fu (some c) B = some (1, B) := fun B hB hn => by
    unfold fX9_isAcknowledged_L171
    rw [gI_ok hB, ob_some, if_neg hn, rN1]
  have stx : (mF M 64 c) = nI (v 0) := by rw [← hE.st]; exact hS.st
  have stn : (mF M 64 c) ≠ 0 := by rw [stx]; exact nI_ne0 (by omega) (by omega)
  have rx : fX9_isAcknowledged_L140 fu 317 (some c) M = if (v 8) = 1 ∧ (v 1) = (v 4) + (v 5) + 2 then (fX1_finIsAcknowledged fu c (nI nw) M).bind (fun M9 => fX9_isAcknowledged_L171 fu (some c) M9) else some (1, M) := by
    unfold fX9_isAcknowledged_L140
    rw [gI_ok c1, ob_some, ← hE.cl, hI.cl, gI_ok c1, ob_some, rc_ok c1, ob_some, edE, b2_some, ← hE.una, hI.una]
    by_cases q : (v 7) = 1
    · rw [if_neg (by rw [q]; decide)]
      by_cases q2 : (v 1) = (v 4) + (v 5) + 2
      · rw [if_pos (eq.mpr q2), if_pos ⟨by omega, q2⟩, gR_ok (xw_ok317 hW), ob_some, xw_g576_317 hW, gI_ok (xw_ok304 hW), ob_some, h.wnow, rc_ok c1, ob_some]
      · rw [if_neg (fun e => q2 (eq.mp e)), if_neg (fun e => q2 e.2)]
        exact L171 M c1 stn
    · rw [if_pos (by rw [show (v 7) = 0 by omega]; rfl), if_neg (fun e => q (hfnI.mp e.1).1)]
      exact L171 M c1 stn
  by_cases q : (v 8) = 1 ∧ (v 1) = (v 4) + (v 5) + 2
  · rw [if_pos q] at ra rx
    have sx : ∀ x : Nat, x < 100 → (v 0) ≠ x → ¬ (nI (v 0) : Int32) = nI x := fun x hx hn e => hn ((nI_eq (by omega) (by omega)).mp e)
    have s3 : (v 0) ≠ 3 → ¬ (nI (v 0) : Int32) = (3 : Int32) := sx 3 (by decide)
    have s5 : (v 0) ≠ 5 → ¬ (nI (v 0) : Int32) = (5 : Int32) := sx 5 (by decide)
    have s8 : (v 0) ≠ 8 → ¬ (nI (v 0) : Int32) = (8 : Int32) := sx 8 (by decide)
    -- from 3 to 4, from 5 to 6
    have step : ∀ s', ((v 0) = 3 ∧ s' = 4) ∨ ((v 0) = 5 ∧ s' = 6) → AckR KN KS t T im ig k c nw A M (sF (sF A 768 (342 + 4 * k) (nI s')) 813 (342 + 4 * k) (nI nw)) (sF (sF M 64 c (nI s')) 72 c (nI nw + 60000)) 1 := by
      intro s' hs'
      have FA' : ∀ g, ¬ (g = 768 ∨ g = 813) → mF (sF (sF A 768 (342 + 4 * k) (nI s')) 813 (342 + 4 * k) (nI nw)) g (342 + 4 * k) = mF A g (342 + 4 * k) := fun g hg => by rw [mF_sF, if_neg (fun e => hg (Or.inr e.1)), mF_sF, if_neg (fun e => hg (Or.inl e.1))]
      have FC' : ∀ g, ¬ (g = 64 ∨ g = 72) → mF (sF (sF M 64 c (nI s')) 72 c (nI nw + 60000)) g c = mF M g c := fun g hg => by rw [mF_sF, if_neg (fun e => hg (Or.inr e.1)), mF_sF, if_neg (fun e => hg (Or.inl e.1))]
      have FP' : ∀ g, ¬ 100000 ≤ g → mF (sF (sF M 64 c (nI s')) 72 c (nI nw + 60000)) g (c + 5) = mF M g (c + 5) := fun g _ => by rw [mF_sF, if_neg (by omega), mF_sF, if_neg (by omega)]
      have FR' : ∀ g, ¬ 100000 ≤ g → mF (sF (sF M 64 c (nI s')) 72 c (nI nw + 60000)) g (c + 2) = mF M g (c + 2) := fun g _ => by rw [mF_sF, if_neg (by omega), mF_sF, if_neg (by omega)]
      have a68 : mF (sF (sF A 768 (342 + 4 * k) (nI s')) 813 (342 + 4 * k) (nI nw)) 768 (342 + 4 * k) = nI s' := by simp only [mF_sF, reduceIte, Nat.reduceEqDiff, Nat.reduceAdd, Nat.reduceMul, Nat.reduceLT, Nat.reduceLeDiff, and_true, true_and, and_false, false_and, and_self, ne_eq, not_true_eq_false, not_false_eq_true, Option.some.injEq, reduceCtorEq]
      have a13 : mF (sF (sF A 768 (342 + 4 * k) (nI s')) 813 (342 + 4 * k) (nI nw)) 813 (342 + 4 * k) = nI nw := by simp only [mF_sF, reduceIte, Nat.reduceEqDiff, Nat.reduceAdd, Nat.reduceMul, Nat.reduceLT, Nat.reduceLeDiff, and_true, true_and, and_false, false_and, and_self, ne_eq, not_true_eq_false, not_false_eq_true, Option.some.injEq, reduceCtorEq]
      have x64 : mF (sF (sF M 64 c (nI s')) 72 c (nI nw + 60000)) 64 c = nI s' := by simp only [mF_sF, reduceIte, Nat.reduceEqDiff, Nat.reduceAdd, Nat.reduceMul, Nat.reduceLT, Nat.reduceLeDiff, and_true, true_and, and_false, false_and, and_self, ne_eq, not_true_eq_false, not_false_eq_true, Option.some.injEq, reduceCtorEq]
      have x72 : mF (sF (sF M 64 c (nI s')) 72 c (nI nw + 60000)) 72 c = nI nw + 60000 := by simp only [mF_sF, reduceIte, Nat.reduceEqDiff, Nat.reduceAdd, Nat.reduceMul, Nat.reduceLT, Nat.reduceLeDiff, and_true, true_and, and_false, false_and, and_self, ne_eq, not_true_eq_false, not_false_eq_true, Option.some.injEq, reduceCtorEq]
      have hdA : mA (sF (sF A 768 (342 + 4 * k) (nI s')) 813 (342 + 4 * k) (nI nw)) (343 + 4 * k) = mA A (343 + 4 * k) := rfl
      have hdM : mA (sF (sF M 64 c (nI s')) 72 c (nI nw + 60000)) (c + 1) = mA M (c + 1) := rfl
      obtain ⟨z1, z2, z3⟩ := TB_upd (k := k) (A' := sF (sF A 768 (342 + 4 * k) (nI s')) 813 (342 + 4 * k) (nI nw)) (M' := sF (sF M 64 c (nI s')) 72 c (nI nw + 60000)) (u := 0) h h.t1000 rfl rfl rfl rfl (fun f a hh => by rw [mF_sF, if_neg (by omega), mF_sF, if_neg (by omega)]) rfl rfl rfl rfl (fun f a h1 _ _ => by rw [mF_sF, if_neg (fun e => h1 e.2), mF_sF, if_neg (fun e => h1 e.2)])
      have fT := hr.st
      have hns1 : (mF A 768 (342 + 4 * k)) ≠ 1 := by rw [hS.st]; exact sx 1 (by decide) (by omega)
      refine ⟨z2, z3, Or.inl ⟨rfl, hd, ft, b0, fun i => if i = 0 then s' else if i = 23 then nw else v i, z1.tk ?_ ?_ ?_ ?_ ?_, by show s' ≠ 1; omega⟩⟩
      · refine CE.mk ?_ ?_ ?_ ?_ ?_ ?_ ?_ ?_ ?_ ?_ ?_ ?_ ?_ ?_ ?_ ?_ ?_ ?_
        · rw [a68, x64]
        · exact (FA' 769 (by omega)).trans (hE.ip.trans (FC' 65 (by omega)).symm)
        · exact (FA' 770 (by omega)).trans (hE.po.trans (FC' 66 (by omega)).symm)
        · exact (FA' 771 (by omega)).trans (hE.is.trans (FC' 67 (by omega)).symm)
        · exact (FA' 772 (by omega)).trans (hE.una.trans (FC' 68 (by omega)).symm)
        · exact (FA' 773 (by omega)).trans (hE.at'.trans (FC' 69 (by omega)).symm)
        · exact (FA' 774 (by omega)).trans (hE.max.trans (FC' 70 (by omega)).symm)
        · exact (FA' 775 (by omega)).trans (hE.wi.trans (FC' 71 (by omega)).symm)
        · exact (FA' 776 (by omega)).trans (hE.w1.trans (FC' 82 (by omega)).symm)
        · exact (FA' 777 (by omega)).trans (hE.w2.trans (FC' 83 (by omega)).symm)
        · exact (FA' 794 (by omega)).trans (hE.hl.trans (FC' 78 (by omega)).symm)
        · exact (FA' 796 (by omega)).trans (hE.bl.trans (FC' 76 (by omega)).symm)
        · rw [FA' 796 (by omega), FA' 795 (by omega), FC' 75 (by omega)]; exact hE.bp
        · exact (FA' 797 (by omega)).trans (hE.bg.trans (FC' 77 (by omega)).symm)
        · exact (FA' 798 (by omega)).trans (hE.cl.trans (FC' 74 (by omega)).symm)
        · exact fun _ => by rw [FA' 812 (by omega), FC' 73 (by omega)]; exact hE.la hns1
        · exact fun _ => by rw [a13, x72]
        · rw [FA' 794 (by omega), hdA, hdM]; exact hE.hd
      · refine CP.mk ?_ ?_ ?_ ?_ ?_ ?_ ?_ ?_ ?_ ?_ ?_ ?_
        · exact (FA' 778 (by omega)).trans (hP.ms.trans (FP' 320 (by omega)).symm)
        · exact (FA' 779 (by omega)).trans (hP.cw.trans (FP' 321 (by omega)).symm)
        · exact (FA' 780 (by omega)).trans (hP.ss.trans (FP' 322 (by omega)).symm)
        · exact (FA' 781 (by omega)).trans (hP.ro.trans (FP' 323 (by omega)).symm)
        · exact (FA' 791 (by omega)).trans (hP.tr.trans (FP' 325 (by omega)).symm)
        · exact (FA' 792 (by omega)).trans (hP.du.trans (FP' 326 (by omega)).symm)
        · exact (FA' 786 (by omega)).trans (hP.re.trans (FP' 327 (by omega)).symm)
        · exact (FA' 785 (by omega)).trans (hP.ti.trans (FP' 328 (by omega)).symm)
        · rw [FA' 785 (by omega), FA' 787 (by omega), FA' 788 (by omega), FP' 329 (by omega), FP' 330 (by omega)]; exact hP.tn
        · exact (FA' 784 (by omega)).trans (hP.me.trans (FP' 331 (by omega)).symm)
        · rw [FA' 784 (by omega), FA' 782 (by omega), FA' 783 (by omega), FP' 332 (by omega), FP' 333 (by omega)]; exact hP.sv
        · rw [FA' 789 (by omega), FA' 790 (by omega), FP' 324 (by omega)]; exact hP.tm
      · refine CI.mk ?_ ?_ ?_ ?_ ?_ ?_ ?_ ?_ ?_ ?_ ?_ ?_ ?_ ?_ ?_ ?_ ?_ ?_ ?_ ?_ ?_ ?_ ?_ ?_ ?_ ?_ ?_ ?_ ?_ ?_ ?_ ?_ ?_ ?_ ?_ ?_
        · exact (FA' 797 (by omega)).trans hI.bg
        · exact (FA' 772 (by omega)).trans hI.una
        · exact (FA' 773 (by omega)).trans hI.at'
        · exact (FA' 774 (by omega)).trans hI.max
        · exact hI.ua
        · exact hI.am
        · exact hI.mL
        · exact (FA' 794 (by omega)).trans hI.hl
        · exact hI.hl1
        · exact (FA' 796 (by omega)).trans hI.bl
        · exact hI.bl1
        · rw [FA' 795 (by omega)]; exact hI.bp
        · exact (FA' 798 (by omega)).trans hI.cl
        · exact hI.cl1
        · exact (FA' 799 (by omega)).trans hI.fn
        · exact hI.fn1
        · exact hI.fnI
        · exact (FA' 778 (by omega)).trans hI.ms
        · exact hI.ms1
        · exact (FA' 779 (by omega)).trans hI.cw
        · exact hI.cw1
        · exact (FA' 780 (by omega)).trans hI.ss
        · exact hI.ss1
        · exact (FA' 781 (by omega)).trans hI.ro
        · exact hI.ro1
        · exact (FA' 775 (by omega)).trans hI.wi
        · exact hI.wi1
        · exact (FA' 789 (by omega)).trans hI.on
        · exact hI.on1
        · rw [FA' 790 (by omega)]; exact hI.tm
        · exact (FA' 785 (by omega)).trans hI.ti
        · exact hI.ti1
        · rw [FA' 787 (by omega), FA' 788 (by omega)]; exact hI.tn
        · exact (FA' 784 (by omega)).trans hI.me
        · exact hI.me1
        · rw [FA' 782 (by omega), FA' 783 (by omega)]; exact hI.sv
      · refine CS.mk a68 ⟨by show 1 ≤ s'; omega, by show s' ≤ 8; omega⟩ (fun e => absurd (show s' = 1 from e) (by omega)) (fun _ => hS.u1) (fun e => ?_) (fun e => ?_) (fun _ => ?_) (fun _ => ⟨?_, hS.la.2.1, fun e => ?_⟩) (fun _ => ⟨a13, Nat.le_refl _, ?_⟩)
        · have e' : s' = 2 ∨ s' = 7 := e
          omega
        · have e' : s' = 3 ∨ s' = 5 ∨ s' = 8 := e
          omega
        · exact q
        · exact (FA' _ (by omega)).trans hS.la.1
        · have e' : s' = 2 := e
          omega
        · show nw ≤ nw + 60000
          omega
      · refine CR.mk ?_ ?_ ?_ ?_ ?_ ?_ ?_ ?_ ?_ ?_ ?_ ?_ ?_ ?_ ?_ ?_ ?_ ?_ ?_
        · exact (FA' 803 (by omega)).trans (hr.rd.trans (FR' 0 (by omega)).symm)
        · exact (FA' 804 (by omega)).trans (hr.nx.trans (FR' 1 (by omega)).symm)
        · exact (FA' 805 (by omega)).trans (hr.to.trans (FR' 2 (by omega)).symm)
        · exact (FA' 806 (by omega)).trans (hr.lv.trans (FR' 3 (by omega)).symm)
        · exact (FA' 807 (by omega)).trans (hr.ow.trans (FR' 4 (by omega)).symm)
        · exact (FA' 808 (by omega)).trans (hr.fk.trans (FR' 7 (by omega)).symm)
        · exact (FA' 809 (by omega)).trans (hr.fT.trans (FR' 8 (by omega)).symm)
        · rw [FA' 808 (by omega), FA' 810 (by omega), FR' 9 (by omega)]; exact hr.fq
        · exact (FA' 809 (by omega)).trans hr.ftN
        · exact hr.ft1
        · rw [FA' 804 (by omega), FA' 803 (by omega)]; exact hr.nxN
        · exact hr.hd1
        · rw [FA' 806 (by omega)]; exact hr.lvN
        · rw [FA' 805 (by omega)]; exact hr.toN
        · exact hr.rw
        · rw [a68, hr.st, hS.st]; rcases hs' with ⟨q1, q2⟩ | ⟨q1, q2⟩ <;> rw [q1, q2] <;> decide
        · exact hr.th
        · exact hr.stp
        · rw [FA' 808 (by omega), FA' 804 (by omega), FA' 810 (by omega)]; exact hr.fnx
    have l260 : fX16_acknowledgement_L260 fu 323 (some (342 + 4 * k)) 1 A = if (v 0) = 3 then some (1, sF (sF A 768 (342 + 4 * k) (nI 4)) 813 (342 + 4 * k) (nI nw)) else if (v 0) = 5 then some (1, sF (sF A 768 (342 + 4 * k) (nI 6)) 813 (342 + 4 * k) (nI nw)) else if (v 0) = 8 then some (0, sF (sF A 768 (342 + 4 * k) 0) 789 (342 + 4 * k) 0) else some (1, A) := by
      unfold fX16_acknowledgement_L260 fX16_acknowledgement_L289 fX16_acknowledgement_L318 fX16_gone
      rw [if_neg one0, gI_ok hA, ob_some, hS.st]
      by_cases q3 : (v 0) = 3
      · rw [if_pos q3, if_pos (by rw [q3]; rfl), pF_ok hA, ob_some, gI_ok (by rw [ok_sF]; exact o323), ob_some, mF_sF, if_neg (by omega), h.nw, pF_ok (by rw [ok_sF]; exact hA), ob_some, rN1]
        rfl
      · rw [if_neg q3, if_neg (s3 q3), if_neg one0, ob_some]
        by_cases q5 : (v 0) = 5
        · rw [if_pos q5, if_pos (by rw [q5]; rfl), pF_ok hA, ob_some, gI_ok (by rw [ok_sF]; exact o323), ob_some, mF_sF, if_neg (by omega), h.nw, pF_ok (by rw [ok_sF]; exact hA), ob_some, rN1]
          rfl
        · rw [if_neg q5, if_neg (s5 q5), if_neg one0, ob_some]
          by_cases q8 : (v 0) = 8
          · rw [if_pos q8, if_pos (by rw [q8]; rfl), rc_ok o323, ob_some, pF_ok hA, ob_some, pZ_ok (by rw [ok_sF]; exact hA) (Or.inl rfl), ob_some, ob_some, rN0]
          · rw [if_neg q8, if_neg (s8 q8), rN1]
    have lfin : fX1_finIsAcknowledged fu c (nI nw) M = if (v 0) = 3 then some (sF (sF M 64 c (nI 4)) 72 c (nI nw + 60000)) else if (v 0) = 5 then some (sF (sF M 64 c (nI 6)) 72 c (nI nw + 60000)) else if (v 0) = 8 then fX1_leave fu c M else some M := by
      unfold fX1_finIsAcknowledged fX1_linger
      rw [gI_ok c1, ob_some, stx]
      by_cases q3 : (v 0) = 3
      · rw [if_pos q3, if_pos (by rw [q3]; rfl), pF_ok c1, ob_some, pF_ok (by rw [ok_sF]; exact c1), ob_some]
        rfl
      · rw [if_neg q3, if_neg (s3 q3), ob_some]
        by_cases q5 : (v 0) = 5
        · rw [if_pos q5, if_pos (by rw [q5]; rfl), rc_ok c1, ob_some, pF_ok c1, ob_some, pF_ok (by rw [ok_sF]; exact c1), ob_some, ob_some]
          rfl
        · rw [if_neg q5, if_neg (s5 q5), ob_some]
          by_cases q8 : (v 0) = 8
          · rw [if_pos q8, if_pos (by rw [q8]; rfl), rc_ok c1, ob_some]
            cases fX1_leave fu c M <;> rfl
          · rw [if_neg q8, if_neg (s8 q8)]
    rw [l260] at ra
    rw [lfin] at rx
    by_cases q3 : (v 0) = 3
    · rw [if_pos q3] at ra rx
      rw [ob_some, L171 _ (by rw [ok_sF, ok_sF]; exact c1) (by simp only [mF_sF, reduceIte, Nat.reduceEqDiff, Nat.reduceAdd, Nat.reduceMul, Nat.reduceLT, Nat.reduceLeDiff, and_true, true_and, and_false, false_and, and_self, ne_eq, not_true_eq_false, not_false_eq_true, Option.some.injEq, reduceCtorEq]; decide)] at rx
      exact ⟨_, _, 1, ra, rx, step 4 (Or.inl ⟨q3, rfl⟩)⟩
    · rw [if_neg q3] at ra rx
      by_cases q5 : (v 0) = 5
      · rw [if_pos q5] at ra rx
        rw [ob_some, L171 _ (by rw [ok_sF, ok_sF]; exact c1) (by simp only [mF_sF, reduceIte, Nat.reduceEqDiff, Nat.reduceAdd, Nat.reduceMul, Nat.reduceLT, Nat.reduceLeDiff, and_true, true_and, and_false, false_and, and_self, ne_eq, not_true_eq_false, not_false_eq_true, Option.some.injEq, reduceCtorEq]; decide)] at rx
        exact ⟨_, _, 1, ra, rx, step 6 (Or.inr ⟨q5, rfl⟩)⟩
      · rw [if_neg q5] at ra rx
        by_cases q8 : (v 0) = 8
        · rw [if_pos q8] at ra rx
          have c4 := hC.2.2.2.1
          have c14 := hC.2.2.2.2.2.2.2.2.2.2.2.2.2
          have lx : fX1_leave fu c M = some (sF (sF M 64 c 0) 324 (c + 5) 2147483647) := by
            unfold fX1_leave
            rw [pF_ok c1, ob_some, gR_ok (by rw [ok_sF]; exact c1), ob_some, mG_sF, c4, pF_ok (by rw [ok_sF]; exact c14), ob_some]
          obtain ⟨z1, z2, z3⟩ := TB_upd (k := k) (A' := sF (sF A 768 (342 + 4 * k) 0) 789 (342 + 4 * k) 0) (M' := sF (sF M 64 c 0) 324 (c + 5) 2147483647) (u := 0) h h.t1000 rfl rfl rfl rfl (fun f a hh => by rw [mF_sF, if_neg (by omega), mF_sF, if_neg (by omega)]) rfl rfl rfl rfl (fun f a h1 _ h5 => by rw [mF_sF, if_neg (fun e => h5 e.2), mF_sF, if_neg (fun e => h1 e.2)])
          have x0 : mF (sF (sF M 64 c 0) 324 (c + 5) 2147483647) 64 c = 0 := by simp only [mF_sF, reduceIte, Nat.reduceEqDiff, Nat.reduceAdd, Nat.reduceMul, Nat.reduceLT, Nat.reduceLeDiff, and_true, true_and, and_false, false_and, and_self, ne_eq, not_true_eq_false, not_false_eq_true, Option.some.injEq, reduceCtorEq]
          refine ⟨_, sF (sF M 64 c 0) 324 (c + 5) 2147483647, 0, ra, ?_, z2, z3, Or.inr ⟨rfl, Or.inr (TD.mk z1.jl z1.ba z1.bm z1.jn z1.ji z1.cn ?_ x0 z1.nw z1.n2)⟩⟩
          · rw [rx, lx, ob_some]
            unfold fX9_isAcknowledged_L171
            rw [gI_ok (by rw [ok_sF, ok_sF]; exact c1), ob_some, x0, if_pos rfl, rN0]
          · simp only [mF_sF, reduceIte, Nat.reduceEqDiff, Nat.reduceAdd, Nat.reduceMul, Nat.reduceLT, Nat.reduceLeDiff, and_true, true_and, and_false, false_and, and_self, ne_eq, not_true_eq_false, not_false_eq_true, Option.some.injEq, reduceCtorEq]
        · rw [if_neg q8] at ra rx
          rw [ob_some, L171 M c1 stn] at rx
          have s46 : (v 0) = 4 ∨ (v 0) = 6 := by
            have := hS.s27
            omega
          exact ⟨_, _, 1, ra, rx, FB.rf, FM.rf, Or.inl ⟨rfl, hd, ft, b0, v, h.tk hE hP hI (CW.cs hI hS (Or.inr s46)) hr, by omega⟩⟩
  · rw [if_neg q] at ra rx
    exact ⟨_, _, 1, ra, rx, FB.rf, FM.rf, Or.inl ⟨rfl, hd, ft, b0, v, h.tk hE hP hI (CW.cs hI hS (Or.inl q)) hr, by omega⟩⟩
end FinAck
