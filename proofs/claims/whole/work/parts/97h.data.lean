/-! ===== part 97h: data go out, in both ===== -/
section Data
variable {A A' M M' : Mm}
theorem CI_congr {k nw t im : Nat} {b0 : Int32} {v : Nat → Nat} (h : ∀ f, 772 ≤ f → f ≤ 799 → mF A' f (342 + 4 * k) = mF A f (342 + 4 * k)) (hI : CI A k nw t im b0 v) : CI A' k nw t im b0 v := by
  unfold CI at *
  simp only [h 772 (by decide) (by decide), h 773 (by decide) (by decide), h 774 (by decide) (by decide), h 775 (by decide) (by decide), h 778 (by decide) (by decide), h 779 (by decide) (by decide), h 780 (by decide) (by decide), h 781 (by decide) (by decide), h 782 (by decide) (by decide), h 783 (by decide) (by decide), h 784 (by decide) (by decide), h 785 (by decide) (by decide), h 787 (by decide) (by decide), h 788 (by decide) (by decide), h 789 (by decide) (by decide), h 790 (by decide) (by decide), h 794 (by decide) (by decide), h 795 (by decide) (by decide), h 796 (by decide) (by decide), h 797 (by decide) (by decide), h 798 (by decide) (by decide), h 799 (by decide) (by decide)]
  exact hI
theorem CIw_congr {k nw t im : Nat} {b0 : Int32} {v : Nat → Nat} (h : ∀ f, 772 ≤ f → f ≤ 799 → mF A' f (342 + 4 * k) = mF A f (342 + 4 * k)) (hI : CIw A k nw t im b0 v) : CIw A' k nw t im b0 v := by
  unfold CIw at *
  simp only [h 772 (by decide) (by decide), h 773 (by decide) (by decide), h 774 (by decide) (by decide), h 775 (by decide) (by decide), h 778 (by decide) (by decide), h 779 (by decide) (by decide), h 780 (by decide) (by decide), h 781 (by decide) (by decide), h 782 (by decide) (by decide), h 783 (by decide) (by decide), h 784 (by decide) (by decide), h 785 (by decide) (by decide), h 787 (by decide) (by decide), h 788 (by decide) (by decide), h 789 (by decide) (by decide), h 790 (by decide) (by decide), h 794 (by decide) (by decide), h 795 (by decide) (by decide), h 796 (by decide) (by decide), h 797 (by decide) (by decide), h 798 (by decide) (by decide), h 799 (by decide) (by decide)]
  exact hI
theorem hldA_nI {k c hd ft : Nat} (h : CR A M k c hd ft) : hldA A k = nI hd := by
  unfold hldA
  have h1 := h.ft1
  rw [h.nxN, h.ftN]
  have e : ((mF A 803 (342 + 4 * k)) + nI (hd + ft)) - (mF A 803 (342 + 4 * k)) = nI (hd + ft) := by
    have := sub_b0 (mF A 803 (342 + 4 * k)) (nI (hd + ft)) 0
    rw [Int32.add_zero, Int32.sub_zero] at this
    exact this
  rw [e]
  by_cases c0 : ft = 0
  · subst c0
    rw [if_pos (show nI 0 = 0 from rfl), Int32.sub_zero]
    rfl
  · have c1 : ft = 1 := by omega
    subst c1
    rw [if_neg (show ¬ nI 1 = 0 by decide), nI_pred]
theorem hldX_eq {k c hd ft : Nat} (h : CR A M k c hd ft) : hldA A k = hldX M c := by
  unfold hldA hldX
  rw [h.nx, h.rd, h.fT]
/-- what came is the same, but what was told, what is owed, and the state -/
theorem CR_upd {k c hd ft : Nat} (hA : ∀ f, (803 ≤ f ∧ f ≤ 810 ∧ f ≠ 805 ∧ f ≠ 807) → mF A' f (342 + 4 * k) = mF A f (342 + 4 * k)) (h1 : mA A' (344 + 4 * k) = mA A (344 + 4 * k)) (h2 : mA A' (345 + 4 * k) = mA A (345 + 4 * k)) (hM : ∀ f, f < 10 → f ≠ 2 → f ≠ 4 → mF M' f (c + 2) = mF M f (c + 2)) (h3 : mA M' (c + 3) = mA M (c + 3)) (h4 : mA M' (c + 4) = mA M (c + 4)) (ht : (mF A' 805 (342 + 4 * k)) = (mF M' 2 (c + 2))) (hto : ∃ w, w ≤ 4096 ∧ (mF A' 805 (342 + 4 * k)) = nI w) (ho : (mF A' 807 (342 + 4 * k)) = (mF M' 4 (c + 2))) (hs : ft = 0 ↔ ((mF A' 768 (342 + 4 * k)) = 1 ∨ (mF A' 768 (342 + 4 * k)) = 2 ∨ (mF A' 768 (342 + 4 * k)) = 3 ∨ (mF A' 768 (342 + 4 * k)) = 4)) (h : CR A M k c hd ft) : CR A' M' k c hd ft := by
  refine CR.mk ?_ ?_ ht ?_ ho ?_ ?_ ?_ ?_ h.ft1 ?_ h.hd1 ?_ hto ?_ hs ?_ ?_ ?_
  · rw [hA 803 (by omega), hM 0 (by decide) (by decide) (by decide)]; exact h.rd
  · rw [hA 804 (by omega), hM 1 (by decide) (by decide) (by decide)]; exact h.nx
  · rw [hA 806 (by omega), hM 3 (by decide) (by decide) (by decide)]; exact h.lv
  · rw [hA 808 (by omega), hM 7 (by decide) (by decide) (by decide)]; exact h.fk
  · rw [hA 809 (by omega), hM 8 (by decide) (by decide) (by decide)]; exact h.fT
  · rw [hA 808 (by omega), hA 810 (by omega), hM 9 (by decide) (by decide) (by decide)]; exact h.fq
  · rw [hA 809 (by omega)]; exact h.ftN
  · rw [hA 804 (by omega), hA 803 (by omega)]; exact h.nxN
  · rw [hA 806 (by omega)]; exact h.lvN
  · rw [hA 803 (by omega), h1, h3]; exact h.rw
  · rw [hA 803 (by omega), h1, h2, h3, h4]; exact h.th
  · rw [h2]; exact h.stp
  · rw [hA 808 (by omega), hA 804 (by omega), hA 810 (by omega)]; exact h.fnx
/-- the reference's part of it, once the bytes are there -/
theorem flag4 {p f : Nat} (hp : p ≤ 1) (hf : f ≤ 1) : (16 + 8 * p + f < 32 ∧ (nI (16 + 8 * p + f) &&& 2) = 0 ∧ (nI (16 + 8 * p + f) &&& 4) = 0 ∧ (((16 : Int32) ||| nI (8 * p)) ||| nI f) = nI (16 + 8 * p + f)) := by
  have : p = 0 ∨ p = 1 := by omega
  have h2 : f = 0 ∨ f = 1 := by omega
  rcases this with rfl | rfl <;> rcases h2 with rfl | rfl <;> exact ⟨by decide, by decide, by decide, by decide⟩
end Data
