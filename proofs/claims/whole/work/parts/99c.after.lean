/-! ===== part 99c: behind a given answer ===== -/
section After
variable {A M A' M' : Mm}
theorem GV_ce {k c im clo hl bl bp : Nat} (h : CE A M k c) (g : GV k c im clo A M A' M' hl bl bp) : CE A' M' k c := by
  obtain ⟨fy, fz, -, -, ⟨hl0, hl1⟩, a794, m78, hd, bl1, a796, m76, bpx, a797, m77, a798, m74, -, -⟩ := g
  have FA' : ∀ g, ¬ (794 ≤ g ∧ g ≤ 798) → mF A' g (342 + 4 * k) = mF A g (342 + 4 * k) := fun g hg => fy.2.2.2.1 g _ (fun e => hg ⟨e.1, e.2.1⟩)
  have FC' : ∀ g, ¬ (74 ≤ g ∧ g ≤ 78) → mF M' g c = mF M g c := fun g hg => fz.2.2.2.1 g _ (fun e => hg ⟨e.1, e.2.1⟩)
  refine CE.mk ?_ ?_ ?_ ?_ ?_ ?_ ?_ ?_ ?_ ?_ ?_ ?_ ?_ ?_ ?_ ?_ ?_ ?_
  · exact (FA' 768 (by omega)).trans (h.st.trans (FC' 64 (by omega)).symm)
  · exact (FA' 769 (by omega)).trans (h.ip.trans (FC' 65 (by omega)).symm)
  · exact (FA' 770 (by omega)).trans (h.po.trans (FC' 66 (by omega)).symm)
  · exact (FA' 771 (by omega)).trans (h.is.trans (FC' 67 (by omega)).symm)
  · exact (FA' 772 (by omega)).trans (h.una.trans (FC' 68 (by omega)).symm)
  · exact (FA' 773 (by omega)).trans (h.at'.trans (FC' 69 (by omega)).symm)
  · exact (FA' 774 (by omega)).trans (h.max.trans (FC' 70 (by omega)).symm)
  · exact (FA' 775 (by omega)).trans (h.wi.trans (FC' 71 (by omega)).symm)
  · exact (FA' 776 (by omega)).trans (h.w1.trans (FC' 82 (by omega)).symm)
  · exact (FA' 777 (by omega)).trans (h.w2.trans (FC' 83 (by omega)).symm)
  · exact a794.trans m78.symm
  · exact a796.trans m76.symm
  · exact fun z => (bpx (fun y => z (by rw [a796, y]; rfl))).1.trans (bpx (fun y => z (by rw [a796, y]; rfl))).2.1.symm
  · exact a797.trans (h.at'.trans m77.symm)
  · exact a798.trans m74.symm
  · rw [FA' 768 (by omega), FA' 812 (by omega), FC' 73 (by omega)]; exact h.la
  · rw [FA' 768 (by omega), FA' 813 (by omega), FC' 72 (by omega)]; exact h.li
  · exact fun j n e e2 e3 => hd j (by have := (nI_eq (by omega) (by omega)).mp (a794.symm.trans e); omega)
/-- the numbers behind a given answer -/
def vGv (v : Nat → Nat) (hl bl bp clo : Nat) : Nat → Nat := fun i => if i = 1 ∨ i = 2 ∨ i = 3 then 1 else if i = 4 then hl else if i = 5 then bl else if i = 6 then bp else if i = 7 then clo else v i
theorem GV_ci {k c im clo hl bl bp nw t : Nat} {b0 : Int32} {v : Nat → Nat} (hI : CI A k nw t im b0 v) (g : GV k c im clo A M A' M' hl bl bp) (hclo : clo ≤ 1) (h0 : (v 7) = 0) (h1 : (v 2) = 1 + (v 4) + (v 5)) (h2 : (v 1) = (v 2)) : CI A' k nw t im (b0 + nI ((v 2) - 1)) (vGv v hl bl bp clo) := by
  obtain ⟨fy, fz, -, -, ⟨hl0, hl1⟩, a794, m78, hd, bl1, a796, m76, bpx, a797, m77, a798, m74, -, -⟩ := g
  have FA' : ∀ g, ¬ (794 ≤ g ∧ g ≤ 798) → mF A' g (342 + 4 * k) = mF A g (342 + 4 * k) := fun g hg => fy.2.2.2.1 g _ (fun e => hg ⟨e.1, e.2.1⟩)
  have mL := hI.mL
  have am := hI.am
  have em : (v 3) = (v 2) := by omega
  have fn0 : (v 8) = 0 := by
    have := hI.fnI
    have := hI.fn1
    omega
  have on0 : (v 14) ≠ 1 := fun z => by
    have := (hI.tm z).2.2.2 (by omega)
    omega
  have ti0 : (v 16) ≠ 1 := fun z => on0 (hI.tn z).1
  have e1 : b0 + nI ((v 2) - 1) + 1 = b0 + nI (v 2) := by
    rw [Int32.add_assoc, nI_1, show (v 2) - 1 + 1 = (v 2) by omega]
  refine CI.mk ?_ ?_ ?_ ?_ ?_ ?_ ?_ ?_ ?_ ?_ ?_ ?_ ?_ ?_ ?_ ?_ ?_ ?_ ?_ ?_ ?_ ?_ ?_ ?_ ?_ ?_ ?_ ?_ ?_ ?_ ?_ ?_ ?_ ?_ ?_ ?_
  · exact a797.trans (hI.at'.trans e1.symm)
  · exact (FA' 772 (by omega)).trans (hI.una.trans (by rw [h2]; exact e1.symm))
  · exact (FA' 773 (by omega)).trans (hI.at'.trans e1.symm)
  · exact (FA' 774 (by omega)).trans (hI.max.trans (by rw [em]; exact e1.symm))
  · exact Nat.le_refl _
  · exact Nat.le_refl _
  · show 1 ≤ 1 + hl + bl + clo; omega
  · exact a794
  · exact hl1
  · exact a796
  · exact bl1
  · exact fun z => ⟨(bpx z).1, (bpx z).2.2⟩
  · exact a798
  · exact hclo
  · exact (FA' 799 (by omega)).trans hI.fn
  · exact hI.fn1
  · show (v 8) = 1 ↔ (clo = 1 ∧ 1 = hl + bl + 2); omega
  · exact (FA' 778 (by omega)).trans hI.ms
  · exact hI.ms1
  · exact (FA' 779 (by omega)).trans hI.cw
  · exact hI.cw1
  · exact (FA' 780 (by omega)).trans hI.ss
  · exact hI.ss1
  · exact (FA' 781 (by omega)).trans hI.ro
  · exact hI.ro1
  · exact (FA' 775 (by omega)).trans hI.wi
  · exact hI.wi1
  · exact (FA' 789 (by omega)).trans hI.on
  · exact hI.on1
  · exact fun z => absurd z on0
  · exact (FA' 785 (by omega)).trans hI.ti
  · exact hI.ti1
  · exact fun z => absurd z ti0
  · exact (FA' 784 (by omega)).trans hI.me
  · exact hI.me1
  · rw [FA' 782 (by omega), FA' 783 (by omega)]; exact hI.sv
theorem GV_cs {k c im clo hl bl bp nw t : Nat} {b0 : Int32} {v : Nat → Nat} (hI : CI A k nw t im b0 v) (hS : CS A k nw b0 v) (g : GV k c im clo A M A' M' hl bl bp) (h0 : (v 7) = 0) (hst : (v 0) = 2 ∨ (v 0) = 7) : CS A' k nw (b0 + nI ((v 2) - 1)) (vGv v hl bl bp clo) := by
  obtain ⟨fy, fz, -, -, ⟨hl0, hl1⟩, -⟩ := g
  have FA' : ∀ g, ¬ (794 ≤ g ∧ g ≤ 798) → mF A' g (342 + 4 * k) = mF A g (342 + 4 * k) := fun g hg => fy.2.2.2.1 g _ (fun e => hg ⟨e.1, e.2.1⟩)
  have l := hS.la (by omega)
  refine CS.mk ?_ ?_ ?_ ?_ ?_ ?_ ?_ ?_ ?_
  · exact (FA' 768 (by omega)).trans hS.st
  · exact hS.st1
  · exact fun z => absurd (show (v 0) = 1 from z) (by omega)
  · exact fun _ => Nat.le_refl _
  · exact hS.s27
  · exact fun z => absurd (show (v 0) = 3 ∨ (v 0) = 5 ∨ (v 0) = 8 from z) (by omega)
  · exact fun z => absurd (show (v 0) = 4 ∨ (v 0) = 6 from z) (by omega)
  · exact fun _ => ⟨(FA' 812 (by omega)).trans l.1, l.2.1, fun _ _ _ z => absurd (show 1 = 1 + hl + bl from z) (by omega)⟩
  · rw [FA' 813 (by omega)]; exact hS.si
end After
