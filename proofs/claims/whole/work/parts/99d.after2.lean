/-! ===== part 99d: a connection behind a given answer ===== -/
section After2
variable {A M A' M' : Mm}
theorem GV_tk {KN KS t T k c nw im ig hd ft clo hl bl bp : Nat} {b0 : Int32} {v : Nat → Nat} (h : TK A M KN KS t T im ig k c nw hd ft b0 v) (hk : k < 16) (g : GV k c im clo A M A' M' hl bl bp) (hclo : clo ≤ 1) (h0 : (v 7) = 0) (h1 : (v 2) = 1 + (v 4) + (v 5)) (h2 : (v 1) = (v 2)) (hst : (v 0) = 2 ∨ (v 0) = 7) : TK A' M' KN KS t T im ig k c nw hd ft (b0 + nI ((v 2) - 1)) (vGv v hl bl bp clo) := by
  have g' := g
  obtain ⟨fy, fz, ba, bm, -, -, -, -, -, -, -, -, -, -, -, -, n330, n305⟩ := g'
  have hW : XW M := h.jl.2.1
  have hC := h.cn
  have FA' : ∀ g, ¬ (794 ≤ g ∧ g ≤ 798) → mF A' g (342 + 4 * k) = mF A g (342 + 4 * k) := fun g hg => fy.2.2.2.1 g _ (fun e => hg ⟨e.1, e.2.1⟩)
  have FP' : ∀ g, ¬ 100000 ≤ g → mF M' g (c + 5) = mF M g (c + 5) := fun g _ => fz.2.2.2.1 g _ (by omega)
  have FR' : ∀ g, ¬ 100000 ≤ g → mF M' g (c + 2) = mF M g (c + 2) := fun g _ => fz.2.2.2.1 g _ (by omega)
  have c301 : c ≠ 301 := fun z => by
    have q := hC.1.2.2
    rw [z] at q
    exact absurd ((xw_ok301 hW).2.2.symm.trans q) (by decide)
  have c305 : ∀ x, okA M 100 x → x ≠ 305 := fun x hx z => by
    have q := hx.2.2
    rw [z] at q
    exact absurd ((xw_ok305 hW).2.2.symm.trans q) (by decide)
  have rwA : mA A' (344 + 4 * k) = mA A (344 + 4 * k) := fy.2.2.2.2 _ (by omega) (by omega)
  have thA : mA A' (345 + 4 * k) = mA A (345 + 4 * k) := fy.2.2.2.2 _ (by omega) (by omega)
  have rwM : mA M' (c + 3) = mA M (c + 3) := fz.2.2.2.2 _ (by omega) (c305 _ hC.2.2.2.2.2.2.2.2.2.1)
  have thM : mA M' (c + 4) = mA M (c + 4) := fz.2.2.2.2 _ (by omega) (by omega)
  have hP := h.cp
  have hr := h.cr
  refine TK.mk (JL0_cn h.jl hC fy.1 fy.2.1 fy.2.2.1 (fun f a hf => fy.2.2.2.1 f a (fun e => by unfold JLf at hf; omega)) (fun a ha => fy.2.2.2.2 a (by omega) (by omega)) fz.1 fz.2.1 fz.2.2.1 (fun f a q1 _ _ _ => fz.2.2.2.1 f a (fun e => q1 e.2.2)) (fun a q1 _ _ q4 _ _ _ => fz.2.2.2.2 a q1 q4)) ?_ ?_ ?_ ?_ (fz.cN hC) (GV_ce h.ce g) ?_ (GV_ci h.ci g hclo h0 h1 h2) (GV_cs h.ci h.cs g h0 hst) ?_ ?_ h.n2
  · have hb := h.ba
    unfold Bd okA at hb ⊢
    rw [fy.1, fy.2.1, fy.2.2.1]
    exact ⟨hb.1, hb.2.1, hb.2.2.1, hb.2.2.2.1, ba⟩
  · have hb := h.bm
    unfold Bd okA at hb ⊢
    rw [fz.1, fz.2.1, fz.2.2.1]
    exact ⟨hb.1, hb.2.1, hb.2.2.1, hb.2.2.2.1, bm⟩
  · intro i hi
    rw [n330, n305, h.jn i hi, h.jn 4 (by decide)]
  · obtain ⟨j1, j2, j3, j4, j5, j6, j7, j8, j9, j10, j11, j12⟩ := h.ji
    have ne : ig ≠ c + 1 := fun z => j9 (by rw [z]; exact hC.1.2.2)
    refine ⟨?_, ?_, ?_, j4, ?_, j6, ?_, ?_, ?_, ?_, j11, j12⟩
    · rw [fz.2.1]; exact j1
    · unfold okA; rw [fz.1]; exact j2
    · rw [fz.1]; exact j3
    · rw [fy.2.2.2.2 325 (by omega) (by decide), fz.2.2.2.2 ig ne (c305 _ j2)]; exact j5
    · rw [fz.1]; exact j7
    · rw [fz.1]; exact j8
    · rw [fz.1]; exact j9
    · rw [fz.1]; exact j10
  · refine CP.mk ?_ ?_ ?_ ?_ ?_ ?_ ?_ ?_ ?_ ?_ ?_ ?_
    · exact (FA' 778 (by omega)).trans (hP.ms.trans (FP' 320 (by omega)).symm)
    · exact (FA' 779 (by omega)).trans (hP.cw.trans (FP' 321 (by omega)).symm)
    · exact (FA' 780 (by omega)).trans (hP.ss.trans (FP' 322 (by omega)).symm)
    · exact (FA' 781 (by omega)).trans (hP.ro.trans (FP' 323 (by omega)).symm)
    · exact (FA' 791 (by omega)).trans (hP.tr.trans (FP' 325 (by omega)).symm)
    · exact (FA' 792 (by omega)).trans (hP.du.trans (FP' 326 (by omega)).symm)
    · exact (FA' 786 (by omega)).trans (hP.re.trans (FP' 327 (by omega)).symm)
    · exact (FA' 785 (by omega)).trans (hP.ti.trans (FP' 328 (by omega)).symm)
    · rw [FA' 785 (by omega), FA' 787 (by omega), FA' 788 (by omega), FP' 329 (by omega), FP' 330 (by omega)]; exact hP.tn
    · exact (FA' 784 (by omega)).trans (hP.me.trans (FP' 331 (by omega)).symm)
    · rw [FA' 784 (by omega), FA' 782 (by omega), FA' 783 (by omega), FP' 332 (by omega), FP' 333 (by omega)]; exact hP.sv
    · rw [FA' 789 (by omega), FA' 790 (by omega), FP' 324 (by omega)]; exact hP.tm
  · refine CR.mk ?_ ?_ ?_ ?_ ?_ ?_ ?_ ?_ ?_ ?_ ?_ ?_ ?_ ?_ ?_ ?_ ?_ ?_ ?_
    · exact (FA' 803 (by omega)).trans (hr.rd.trans (FR' 0 (by omega)).symm)
    · exact (FA' 804 (by omega)).trans (hr.nx.trans (FR' 1 (by omega)).symm)
    · exact (FA' 805 (by omega)).trans (hr.to.trans (FR' 2 (by omega)).symm)
    · exact (FA' 806 (by omega)).trans (hr.lv.trans (FR' 3 (by omega)).symm)
    · exact (FA' 807 (by omega)).trans (hr.ow.trans (FR' 4 (by omega)).symm)
    · exact (FA' 808 (by omega)).trans (hr.fk.trans (FR' 7 (by omega)).symm)
    · exact (FA' 809 (by omega)).trans (hr.fT.trans (FR' 8 (by omega)).symm)
    · rw [FA' 808 (by omega), FA' 810 (by omega), FR' 9 (by omega)]; exact hr.fq
    · exact (FA' 809 (by omega)).trans hr.ftN
    · exact hr.ft1
    · rw [FA' 804 (by omega), FA' 803 (by omega)]; exact hr.nxN
    · exact hr.hd1
    · rw [FA' 806 (by omega)]; exact hr.lvN
    · rw [FA' 805 (by omega)]; exact hr.toN
    · rw [rwA, rwM, FA' 803 (by omega)]; exact hr.rw
    · rw [FA' 768 (by omega)]; exact hr.st
    · rw [thA, thM, rwA, rwM, FA' 803 (by omega)]; exact hr.th
    · rw [thA]; exact hr.stp
    · rw [FA' 808 (by omega), FA' 804 (by omega), FA' 810 (by omega)]; exact hr.fnx
  · rw [fy.2.2.2.1 _ _ (by omega)]; exact h.nw
end After2
