/-! ===== part 99c: behind a given answer ===== -/
section After
variable {A M A' M' : Mm}
theorem GV_ce {k c im clo hl bl bp : Nat} (h : CE A M k c) (g : GV k c im clo A M A' M' hl bl bp) : CE A' M' k c := by
  obtain ⟨fy, fz, -, -, hl1, a794, m78, hd, bl1, a796, m76, bpx, a797, m77, a798, m74, -, -⟩ := g
  have FA' : ∀ g, ¬ (794 ≤ g ∧ g ≤ 798) → mF A' g (342 + 4 * k) = mF A g (342 + 4 * k) := fun g hg => fy.2.2.2.1 g _ (fun e => hg ⟨e.1, e.2.1⟩)
  have FC' : ∀ g, ¬ (74 ≤ g ∧ g ≤ 78) → mF M' g c = mF M g c := fun g hg => fz.2.2.2.1 g _ (fun e => hg ⟨e.1, e.2.1⟩)
  refine CE.mk ?_ ?_ ?_ ?_ ?_ ?_ ?_ ?_ ?_ ?_ ?_ ?_ ?_ ?_ ?_ ?_ ?_ ?_
  · exact (FA' 768 (by omega)).trans (h.st.trans (FC' 64 (by omega)).symm)
  · exact (FA' 769 (by omega)).trans (h.ip.trans (FC' 65 (by omega)).symm)
  · exact (FA' 770 (by omega)).trans (h.po.trans (FC' 66 (by omega)).symm)
  · exact (FA' 771 (by omega)).trans (h.is.trans (FC' 67 (by omega)).symm)
  · exact (FA' 772 (by omega)).trans (h.una.trans (FC' 68 (by omega)).symm)
  · exact (FA' 773 (by omega)).trans (h.at'.trans (FC' 69 (by omega)).symm)
  · exact (FA' 774 (by omega)).trans (h.max.trans (FC' 70 (by omega)).symm)
  · exact (FA' 775 (by omega)).trans (h.wi.trans (FC' 71 (by omega)).symm)
  · exact (FA' 776 (by omega)).trans (h.w1.trans (FC' 82 (by omega)).symm)
  · exact (FA' 777 (by omega)).trans (h.w2.trans (FC' 83 (by omega)).symm)
  · exact a794.trans m78.symm
  · exact a796.trans m76.symm
  · exact fun z => (bpx (fun y => z (by rw [a796, y]; rfl))).1.trans (bpx (fun y => z (by rw [a796, y]; rfl))).2.1.symm
  · exact a797.trans (h.at'.trans m77.symm)
  · exact a798.trans m74.symm
  · rw [FA' 768 (by omega), FA' 812 (by omega), FC' 73 (by omega)]; exact h.la
  · rw [FA' 768 (by omega), FA' 813 (by omega), FC' 72 (by omega)]; exact h.li
  · exact fun j n e e2 e3 => hd j (by have := (nI_eq (by omega) (by omega)).mp (a794.symm.trans e); omega)
end After
