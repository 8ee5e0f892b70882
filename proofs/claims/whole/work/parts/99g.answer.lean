/-! ===== part 99g: a request is answered, in both ===== -/
section Answer
variable {A M A' M' : Mm}
theorem Bd_q {R T : Nat → Prop} {B B' : Mm} (h : Bd R T B) (s : mS B' = mS B) (g : mG B' = mG B) (b : mB B' = mB B) (y : By B') : Bd R T B' := by
  unfold Bd okA at h ⊢
  rw [s, g, b]
  exact ⟨h.1, h.2.1, h.2.2.1, h.2.2.2.1, y⟩
/-- what is to be left out is noted, in both -/
theorem TK_leave {KN KS t T k c nw im ig hd ft l : Nat} {b0 : Int32} {v : Nat → Nat} (h : TK A M KN KS t T im ig k c nw hd ft b0 v) (hl : l ≤ 65536) : TK (sF A 806 (342 + 4 * k) (nI l)) (sF M 3 (c + 2) (nI l)) KN KS t T im ig k c nw hd ft b0 v := by
  generalize hA1 : sF A 806 (342 + 4 * k) (nI l) = A1
  generalize hM1 : sF M 3 (c + 2) (nI l) = M1
  have FA' : ∀ g, ¬ g = 806 → mF A1 g (342 + 4 * k) = mF A g (342 + 4 * k) := fun g hg => by subst hA1; rw [mF_sF, if_neg (fun e => hg e.1)]
  have FC' : ∀ g, ¬ 100000 ≤ g → mF M1 g c = mF M g c := fun g _ => by subst hM1; rw [mF_sF, if_neg (by omega)]
  have FP' : ∀ g, ¬ 100000 ≤ g → mF M1 g (c + 5) = mF M g (c + 5) := fun g _ => by subst hM1; rw [mF_sF, if_neg (by omega)]
  have FR' : ∀ g, ¬ g = 3 → mF M1 g (c + 2) = mF M g (c + 2) := fun g hg => by subst hM1; rw [mF_sF, if_neg (fun e => hg e.1)]
  have eA : mA A1 = mA A := by subst hA1; rfl
  have eM : mA M1 = mA M := by subst hM1; rfl
  have hdA : mA A1 (343 + 4 * k) = mA A (343 + 4 * k) := by rw [eA]
  have hdM : mA M1 (c + 1) = mA M (c + 1) := by rw [eM]
  have rwA : mA A1 (344 + 4 * k) = mA A (344 + 4 * k) := by rw [eA]
  have rwM : mA M1 (c + 3) = mA M (c + 3) := by rw [eM]
  have thA : mA A1 (345 + 4 * k) = mA A (345 + 4 * k) := by rw [eA]
  have thM : mA M1 (c + 4) = mA M (c + 4) := by rw [eM]
  have v6 : mF A1 806 (342 + 4 * k) = nI l := by subst hA1; rw [mF_sF, if_pos ⟨rfl, rfl⟩]
  have v3 : mF M1 3 (c + 2) = nI l := by subst hM1; rw [mF_sF, if_pos ⟨rfl, rfl⟩]
  have hE := h.ce
  have hP := h.cp
  have hI := h.ci
  have hS := h.cs
  have hr := h.cr
  have ht : t ≤ 1000 := by obtain ⟨_, _, _, _, _, q, -⟩ := h.jl.2.2.2.2.2.2.2; omega
  refine (TK_upd (u := 0) h ht (by subst hA1; rfl) (by subst hA1; rfl) (by subst hA1; rfl) eA (fun f a q => by subst hA1; rw [mF_sF, if_neg (fun e => q ⟨by omega, by omega, e.2⟩)]) (by subst hM1; rfl) (by subst hM1; rfl) (by subst hM1; rfl) eM (fun f a _ q _ => by subst hM1; rw [mF_sF, if_neg (fun e => q e.2)]) ?_ ?_ ?_ ?_ ?_).1
  · refine CE.mk ?_ ?_ ?_ ?_ ?_ ?_ ?_ ?_ ?_ ?_ ?_ ?_ ?_ ?_ ?_ ?_ ?_ ?_
    · exact (FA' 768 (by omega)).trans (hE.st.trans (FC' 64 (by omega)).symm)
    · exact (FA' 769 (by omega)).trans (hE.ip.trans (FC' 65 (by omega)).symm)
    · exact (FA' 770 (by omega)).trans (hE.po.trans (FC' 66 (by omega)).symm)
    · exact (FA' 771 (by omega)).trans (hE.is.trans (FC' 67 (by omega)).symm)
    · exact (FA' 772 (by omega)).trans (hE.una.trans (FC' 68 (by omega)).symm)
    · exact (FA' 773 (by omega)).trans (hE.at'.trans (FC' 69 (by omega)).symm)
    · exact (FA' 774 (by omega)).trans (hE.max.trans (FC' 70 (by omega)).symm)
    · exact (FA' 775 (by omega)).trans (hE.wi.trans (FC' 71 (by omega)).symm)
    · exact (FA' 776 (by omega)).trans (hE.w1.trans (FC' 82 (by omega)).symm)
    · exact (FA' 777 (by omega)).trans (hE.w2.trans (FC' 83 (by omega)).symm)
    · exact (FA' 794 (by omega)).trans (hE.hl.trans (FC' 78 (by omega)).symm)
    · exact (FA' 796 (by omega)).trans (hE.bl.trans (FC' 76 (by omega)).symm)
    · rw [FA' 796 (by omega), FA' 795 (by omega), FC' 75 (by omega)]; exact hE.bp
    · exact (FA' 797 (by omega)).trans (hE.bg.trans (FC' 77 (by omega)).symm)
    · exact (FA' 798 (by omega)).trans (hE.cl.trans (FC' 74 (by omega)).symm)
    · rw [FA' 768 (by omega), FA' 812 (by omega), FC' 73 (by omega)]; exact hE.la
    · rw [FA' 768 (by omega), FA' 813 (by omega), FC' 72 (by omega)]; exact hE.li
    · rw [FA' 794 (by omega), hdA, hdM]; exact hE.hd
  · refine CP.mk ?_ ?_ ?_ ?_ ?_ ?_ ?_ ?_ ?_ ?_ ?_ ?_
    · exact (FA' 778 (by omega)).trans (hP.ms.trans (FP' 320 (by omega)).symm)
    · exact (FA' 779 (by omega)).trans (hP.cw.trans (FP' 321 (by omega)).symm)
    · exact (FA' 780 (by omega)).trans (hP.ss.trans (FP' 322 (by omega)).symm)
    · exact (FA' 781 (by omega)).trans (hP.ro.trans (FP' 323 (by omega)).symm)
    · exact (FA' 791 (by omega)).trans (hP.tr.trans (FP' 325 (by omega)).symm)
    · exact (FA' 792 (by omega)).trans (hP.du.trans (FP' 326 (by omega)).symm)
    · exact (FA' 786 (by omega)).trans (hP.re.trans (FP' 327 (by omega)).symm)
    · exact (FA' 785 (by omega)).trans (hP.ti.trans (FP' 328 (by omega)).symm)
    · rw [FA' 785 (by omega), FA' 787 (by omega), FA' 788 (by omega), FP' 329 (by omega), FP' 330 (by omega)]; exact hP.tn
    · exact (FA' 784 (by omega)).trans (hP.me.trans (FP' 331 (by omega)).symm)
    · rw [FA' 784 (by omega), FA' 782 (by omega), FA' 783 (by omega), FP' 332 (by omega), FP' 333 (by omega)]; exact hP.sv
    · rw [FA' 789 (by omega), FA' 790 (by omega), FP' 324 (by omega)]; exact hP.tm
  · refine CI.mk ?_ ?_ ?_ ?_ ?_ ?_ ?_ ?_ ?_ ?_ ?_ ?_ ?_ ?_ ?_ ?_ ?_ ?_ ?_ ?_ ?_ ?_ ?_ ?_ ?_ ?_ ?_ ?_ ?_ ?_ ?_ ?_ ?_ ?_ ?_ ?_
    · exact (FA' 797 (by omega)).trans hI.bg
    · exact (FA' 772 (by omega)).trans hI.una
    · exact (FA' 773 (by omega)).trans hI.at'
    · exact (FA' 774 (by omega)).trans hI.max
    · exact hI.ua
    · exact hI.am
    · exact hI.mL
    · exact (FA' 794 (by omega)).trans hI.hl
    · exact hI.hl1
    · exact (FA' 796 (by omega)).trans hI.bl
    · exact hI.bl1
    · rw [FA' 795 (by omega)]; exact hI.bp
    · exact (FA' 798 (by omega)).trans hI.cl
    · exact hI.cl1
    · exact (FA' 799 (by omega)).trans hI.fn
    · exact hI.fn1
    · exact hI.fnI
    · exact (FA' 778 (by omega)).trans hI.ms
    · exact hI.ms1
    · exact (FA' 779 (by omega)).trans hI.cw
    · exact hI.cw1
    · exact (FA' 780 (by omega)).trans hI.ss
    · exact hI.ss1
    · exact (FA' 781 (by omega)).trans hI.ro
    · exact hI.ro1
    · exact (FA' 775 (by omega)).trans hI.wi
    · exact hI.wi1
    · exact (FA' 789 (by omega)).trans hI.on
    · exact hI.on1
    · rw [FA' 790 (by omega)]; exact hI.tm
    · exact (FA' 785 (by omega)).trans hI.ti
    · exact hI.ti1
    · rw [FA' 787 (by omega), FA' 788 (by omega)]; exact hI.tn
    · exact (FA' 784 (by omega)).trans hI.me
    · exact hI.me1
    · rw [FA' 782 (by omega), FA' 783 (by omega)]; exact hI.sv
  · refine CS.mk ?_ ?_ ?_ ?_ ?_ ?_ ?_ ?_ ?_
    · exact (FA' 768 (by omega)).trans hS.st
    · exact hS.st1
    · rw [FA' 771 (by omega), FA' 786 (by omega)]; exact hS.s1
    · exact hS.sN1
    · exact hS.s27
    · exact hS.s358
    · exact hS.s46
    · rw [FA' 812 (by omega)]; exact hS.la
    · rw [FA' 813 (by omega)]; exact hS.si
  · refine CR.mk ?_ ?_ ?_ ?_ ?_ ?_ ?_ ?_ ?_ ?_ ?_ ?_ ?_ ?_ ?_ ?_ ?_ ?_ ?_
    · exact (FA' 803 (by omega)).trans (hr.rd.trans (FR' 0 (by omega)).symm)
    · exact (FA' 804 (by omega)).trans (hr.nx.trans (FR' 1 (by omega)).symm)
    · exact (FA' 805 (by omega)).trans (hr.to.trans (FR' 2 (by omega)).symm)
    · exact v6.trans v3.symm
    · exact (FA' 807 (by omega)).trans (hr.ow.trans (FR' 4 (by omega)).symm)
    · exact (FA' 808 (by omega)).trans (hr.fk.trans (FR' 7 (by omega)).symm)
    · exact (FA' 809 (by omega)).trans (hr.fT.trans (FR' 8 (by omega)).symm)
    · rw [FA' 808 (by omega), FA' 810 (by omega), FR' 9 (by omega)]; exact hr.fq
    · exact (FA' 809 (by omega)).trans hr.ftN
    · exact hr.ft1
    · rw [FA' 804 (by omega), FA' 803 (by omega)]; exact hr.nxN
    · exact hr.hd1
    · exact ⟨l, hl, v6⟩
    · rw [FA' 805 (by omega)]; exact hr.toN
    · rw [rwA, rwM, FA' 803 (by omega)]; exact hr.rw
    · rw [FA' 768 (by omega)]; exact hr.st
    · rw [thA, thM, rwA, rwM, FA' 803 (by omega)]; exact hr.th
    · rw [thA]; exact hr.stp
    · rw [FA' 808 (by omega), FA' 804 (by omega), FA' 810 (by omega)]; exact hr.fnx
/-- does the connection close, and what of the body is left: the reference's end of an answer -/
theorem m_L204 (fu : Nat) {k st V : Nat} {a5 ix o' cl ke : Int32} (hk : k < 16) (hR : RW A) (s : mF A 1067 323 = nI st) (hs : st = 200 ∨ st = 304 ∨ st = 400 ∨ st = 404 ∨ st = 405 ∨ st = 413 ∨ st = 500 ∨ st = 501) (h5 : st ≠ 400 → a5 = 1 ∧ mF A 1069 323 = o' ∧ mF A 1070 323 = cl ∧ mF A 1071 323 = ke) (hV : ¬ (st = 400 ∨ st = 413 ∨ st = 501) → mF A 1075 323 = nI V) :
    fX16_answer_L204 fu 323 (some (342 + 4 * k)) a5 ix A = fX16_answer_L351 fu 323 (some (342 + 4 * k)) (some 323) (some (342 + 4 * k)) ix (nI (if (cl = 0 ∧ (ke ≠ 0 ∨ o' = 0)) ∧ ¬ (st = 400 ∨ st = 413 ∨ st = 431 ∨ st = 501 ∨ st = 500) then 0 else 1)) (if st = 400 ∨ st = 413 ∨ st = 501 then A else sF A 806 (342 + 4 * k) (nI V)) := by
  have o := rw_ok323 hR
  have n4 : (nI st = (400 : Int32)) ↔ st = 400 := nI_eq (b := 400) (by omega) (by decide)
  have n13 : (nI st = (413 : Int32)) ↔ st = 413 := nI_eq (b := 413) (by omega) (by decide)
  have n5 : (nI st = (500 : Int32)) ↔ st = 500 := nI_eq (b := 500) (by omega) (by decide)
  have n51 : (nI st = (501 : Int32)) ↔ st = 501 := nI_eq (b := 501) (by omega) (by decide)
  have e1 : ∀ s0 (X : Mm), fX16_answer_L332 fu 323 (some (342 + 4 * k)) ix 1 s0 X = fX16_answer_L351 fu 323 (some (342 + 4 * k)) (some 323) (some (342 + 4 * k)) ix 1 X := fun s0 X => by
    unfold fX16_answer_L332 fX16_answer_L346
    rw [if_neg (by decide)]
  have e292 : ∀ a7 s0, fX16_answer_L292 fu 323 (some (342 + 4 * k)) ix a7 s0 A = fX16_answer_L332 fu 323 (some (342 + 4 * k)) ix a7 s0 (if st = 400 ∨ st = 413 ∨ st = 501 then A else sF A 806 (342 + 4 * k) (nI V)) := fun a7 s0 => by
    unfold fX16_answer_L292
    simp only [gI_ok o, ob_some, s, n4, n13, n51]
    by_cases q1 : st = 400
    · rw [if_pos q1, if_pos (Or.inl q1)]
    · by_cases q2 : st = 413
      · rw [if_neg q1, if_pos q2, if_pos (Or.inr (Or.inl q2))]
      · by_cases q3 : st = 501
        · rw [if_neg q1, if_neg q2, if_pos q3, if_pos (Or.inr (Or.inr q3))]
        · have q : ¬ (st = 400 ∨ st = 413 ∨ st = 501) := by omega
          rw [if_neg q1, if_neg q2, if_neg q3, if_neg q, hV q, pF_ok (rw_cnO hR k hk), ob_some]
  have e249 : ∀ s0, ∃ s1, fX16_answer_L249 fu 323 (some (342 + 4 * k)) a5 ix s0 A = fX16_answer_L292 fu 323 (some (342 + 4 * k)) ix s0 s1 A ∧ (st ≠ 400 → s1 = (if cl = 0 ∧ (ke ≠ 0 ∨ o' = 0) then 1 else 0)) := fun s0 => by
    unfold fX16_answer_L249 fX16_answer_L291 fX16_answer_L287
    simp only [gI_ok o, ob_some]
    by_cases q0 : a5 = 0
    · rw [if_pos q0]
      refine ⟨0, rfl, fun z => ?_⟩
      have := (h5 z).1
      rw [q0] at this
      exact absurd this (by decide)
    · rw [if_neg q0]
      by_cases q1 : mF A 1069 323 = 0
      · rw [if_pos q1]
        by_cases q2 : mF A 1070 323 = 0
        · rw [if_pos q2]
          refine ⟨1, rfl, fun z => ?_⟩
          obtain ⟨-, z1, z2, z3⟩ := h5 z
          rw [if_pos ⟨z2.symm.trans q2, Or.inr (z1.symm.trans q1)⟩]
        · rw [if_neg q2]
          refine ⟨0, rfl, fun z => ?_⟩
          obtain ⟨-, z1, z2, z3⟩ := h5 z
          rw [if_neg (fun e => q2 (z2.trans e.1))]
      · rw [if_neg q1]
        by_cases q3 : mF A 1071 323 = 0
        · rw [if_pos q3]
          refine ⟨0, rfl, fun z => ?_⟩
          obtain ⟨-, z1, z2, z3⟩ := h5 z
          rw [if_neg (fun e => e.2.elim (fun w => w (z3.symm.trans q3)) (fun w => q1 (z1.trans w)))]
        · rw [if_neg q3]
          by_cases q2 : mF A 1070 323 = 0
          · rw [if_pos q2]
            refine ⟨1, rfl, fun z => ?_⟩
            obtain ⟨-, z1, z2, z3⟩ := h5 z
            rw [if_pos ⟨z2.symm.trans q2, Or.inl (fun w => q3 (z3.trans w))⟩]
          · rw [if_neg q2]
            refine ⟨0, rfl, fun z => ?_⟩
            obtain ⟨-, z1, z2, z3⟩ := h5 z
            rw [if_neg (fun e => q2 (z2.trans e.1))]
  by_cases q : st = 400 ∨ st = 413 ∨ st = 500 ∨ st = 501
  · have hc : ¬ ((cl = 0 ∧ (ke ≠ 0 ∨ o' = 0)) ∧ ¬ (st = 400 ∨ st = 413 ∨ st = 431 ∨ st = 501 ∨ st = 500)) := fun e => e.2 (by omega)
    rw [if_neg hc]
    obtain ⟨s1, w1, -⟩ := e249 1
    have : fX16_answer_L204 fu 323 (some (342 + 4 * k)) a5 ix A = fX16_answer_L249 fu 323 (some (342 + 4 * k)) a5 ix 1 A := by
      unfold fX16_answer_L204 fX16_answer_L244
      simp only [gI_ok o, ob_some, s, n4, n13, n5, n51]
      rcases q with q | q | q | q <;> subst q <;> simp only [reduceIte, Nat.reduceEqDiff, Nat.reduceAdd, Nat.reduceMul, Nat.reduceLT, Nat.reduceLeDiff, and_true, true_and, and_false, false_and, and_self, ne_eq, not_true_eq_false, not_false_eq_true, Option.some.injEq, reduceCtorEq]
    rw [this, w1, e292, e1]
    rfl
  · obtain ⟨s1, w1, w2⟩ := e249 0
    have w3 := w2 (by omega)
    have : fX16_answer_L204 fu 323 (some (342 + 4 * k)) a5 ix A = fX16_answer_L249 fu 323 (some (342 + 4 * k)) a5 ix 0 A := by
      unfold fX16_answer_L204 fX16_answer_L244
      simp only [gI_ok o, ob_some, s, n4, n13, n5, n51]
      rw [if_neg (by omega), if_neg (by omega), if_neg (by omega), if_neg (by omega)]
    rw [this, w1, e292]
    clear e292 e249 e1 w1 w2 this
    generalize (if st = 400 ∨ st = 413 ∨ st = 501 then A else sF A 806 (342 + 4 * k) (nI V)) = A6
    unfold fX16_answer_L332 fX16_answer_L346
    rw [if_pos rfl, w3]
    by_cases p : cl = 0 ∧ (ke ≠ 0 ∨ o' = 0)
    · rw [if_pos p, if_neg (by decide), if_pos ⟨p, by omega⟩]
      rfl
    · rw [if_neg p, if_pos rfl, if_neg (fun e => p e.1)]
      rfl
end Answer
