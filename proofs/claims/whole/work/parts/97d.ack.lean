/-! ===== part 97d: a new acknowledgement, whole ===== -/
theorem sub_b0 (b x y : Int32) : (b + x) - (b + y) = x - y := by
  rw [Int32.sub_eq_add_neg, Int32.sub_eq_add_neg, Int32.neg_add, Int32.sub_eq_add_neg, ← Int32.add_assoc, Int32.add_comm b x, Int32.add_assoc x b, Int32.add_right_neg, Int32.add_zero]
theorem bef_nI {b : Int32} {x y : Nat} (hx : x < 2 ^ 30) (hy : y < 2 ^ 30) : 0 ≤ (b + nI x) - (b + nI y) ↔ y ≤ x := by
  rw [sub_b0]
  constructor
  · intro h
    refine Classical.byContradiction (fun c => ?_)
    exact Int32.not_le.mpr (pk_sneg hy (by omega)) h
  · intro h
    rw [nI_sub h]
    exact nI_0le (by omega)
theorem beh_nI {b : Int32} {x y : Nat} (hx : x < 2 ^ 30) (hy : y < 2 ^ 30) : (b + nI x) - (b + nI y) ≤ 0 ↔ x ≤ y := by
  rw [sub_b0]
  constructor
  · intro h
    refine Classical.byContradiction (fun c => ?_)
    rw [nI_sub (by omega)] at h
    exact nI_nle (by omega) (by omega) h
  · intro h
    by_cases e : x = y
    · subst e
      rw [nI_sub (Nat.le_refl _), Nat.sub_self]
      decide
    · exact Int32.le_of_lt (pk_sneg hy (by omega))
section Cong
variable {A A' M M' : Mm} {k c : Nat}
theorem CP_congr (hA : ∀ f, 778 ≤ f → f ≤ 792 → mF A' f (342 + 4 * k) = mF A f (342 + 4 * k)) (hM : ∀ f, 320 ≤ f → f < 384 → mF M' f (c + 5) = mF M f (c + 5)) (h : CP A M k c) : CP A' M' k c := by
  unfold CP at *
  simp only [hA 778 (by decide) (by decide), hA 779 (by decide) (by decide), hA 780 (by decide) (by decide), hA 781 (by decide) (by decide), hA 782 (by decide) (by decide), hA 783 (by decide) (by decide), hA 784 (by decide) (by decide), hA 785 (by decide) (by decide), hA 786 (by decide) (by decide), hA 787 (by decide) (by decide), hA 788 (by decide) (by decide), hA 789 (by decide) (by decide), hA 790 (by decide) (by decide), hA 791 (by decide) (by decide), hA 792 (by decide) (by decide), hM 320 (by decide) (by decide), hM 321 (by decide) (by decide), hM 322 (by decide) (by decide), hM 323 (by decide) (by decide), hM 324 (by decide) (by decide), hM 325 (by decide) (by decide), hM 326 (by decide) (by decide), hM 327 (by decide) (by decide), hM 328 (by decide) (by decide), hM 329 (by decide) (by decide), hM 330 (by decide) (by decide), hM 331 (by decide) (by decide), hM 332 (by decide) (by decide), hM 333 (by decide) (by decide)]
  exact h
theorem CE_congr (hA : ∀ f, 768 ≤ f → f < 832 → mF A' f (342 + 4 * k) = mF A f (342 + 4 * k)) (h1 : mA A' (343 + 4 * k) = mA A (343 + 4 * k)) (hM : ∀ f, 64 ≤ f → f < 128 → mF M' f c = mF M f c) (h2 : mA M' (c + 1) = mA M (c + 1)) (h : CE A M k c) : CE A' M' k c := by
  unfold CE at *
  simp only [hA 768 (by decide) (by decide), hA 769 (by decide) (by decide), hA 770 (by decide) (by decide), hA 771 (by decide) (by decide), hA 772 (by decide) (by decide), hA 773 (by decide) (by decide), hA 774 (by decide) (by decide), hA 775 (by decide) (by decide), hA 776 (by decide) (by decide), hA 777 (by decide) (by decide), hA 794 (by decide) (by decide), hA 795 (by decide) (by decide), hA 796 (by decide) (by decide), hA 797 (by decide) (by decide), hA 798 (by decide) (by decide), hA 812 (by decide) (by decide), hA 813 (by decide) (by decide), hM 64 (by decide) (by decide), hM 65 (by decide) (by decide), hM 66 (by decide) (by decide), hM 67 (by decide) (by decide), hM 68 (by decide) (by decide), hM 69 (by decide) (by decide), hM 70 (by decide) (by decide), hM 71 (by decide) (by decide), hM 72 (by decide) (by decide), hM 73 (by decide) (by decide), hM 74 (by decide) (by decide), hM 75 (by decide) (by decide), hM 76 (by decide) (by decide), hM 77 (by decide) (by decide), hM 78 (by decide) (by decide), hM 82 (by decide) (by decide), hM 83 (by decide) (by decide), h1, h2]
  exact h
theorem CR_congr {hd ft : Nat} (hA : ∀ f, (f = 768 ∨ (803 ≤ f ∧ f ≤ 810)) → mF A' f (342 + 4 * k) = mF A f (342 + 4 * k)) (h1 : mA A' (344 + 4 * k) = mA A (344 + 4 * k)) (h2 : mA A' (345 + 4 * k) = mA A (345 + 4 * k)) (hM : ∀ f, f < 10 → mF M' f (c + 2) = mF M f (c + 2)) (h3 : mA M' (c + 3) = mA M (c + 3)) (h4 : mA M' (c + 4) = mA M (c + 4)) (h : CR A M k c hd ft) : CR A' M' k c hd ft := by
  unfold CR at *
  simp only [hA 768 (by omega), hA 803 (by omega), hA 804 (by omega), hA 805 (by omega), hA 806 (by omega), hA 807 (by omega), hA 808 (by omega), hA 809 (by omega), hA 810 (by omega), h1, h2, h3, h4, hM 0 (by decide), hM 1 (by decide), hM 2 (by decide), hM 3 (by decide), hM 4 (by decide), hM 7 (by decide), hM 8 (by decide), hM 9 (by decide)]
  exact h
end Cong
/-- what an operation on connection k may change -/
def PCa (k f a : Nat) : Prop := PL f a ∨ (768 ≤ f ∧ f < 832 ∧ a = 342 + 4 * k)
def QCa (k a : Nat) : Prop := QL a ∨ (343 + 4 * k ≤ a ∧ a ≤ 345 + 4 * k) ∨ a = 330
def PCx (c t f a : Nat) : Prop := PLx t f a ∨ a = c ∨ a = c + 2 ∨ a = c + 5
def QCx (c u t s a : Nat) : Prop := QLx u t s a ∨ a = c + 1 ∨ a = c + 3 ∨ a = c + 4 ∨ a = 305
/-- fields outside P and rows outside Q are as they were, and the order of what waits never goes back -/
def FB (P : Nat → Nat → Prop) (Q : Nat → Prop) (A A' : Mm) : Prop := mS A' = mS A ∧ mG A' = mG A ∧ mB A' = mB A ∧ (∀ f a, ¬ P f a → mF A' f a = mF A f a) ∧ (∀ a, ¬ Q a → mA A' a = mA A a) ∧ mF A 1049 323 ≤ mF A' 1049 323
theorem FB.rf {P : Nat → Nat → Prop} {Q : Nat → Prop} {A : Mm} : FB P Q A A := ⟨rfl, rfl, rfl, fun _ _ _ => rfl, fun _ _ => rfl, Int32.le_refl _⟩
theorem FB.tr {P : Nat → Nat → Prop} {Q : Nat → Prop} {A A' A'' : Mm} (h : FB P Q A A') (g : FB P Q A' A'') : FB P Q A A'' := by
  obtain ⟨a1, a2, a3, a4, a5, a6⟩ := h
  obtain ⟨b1, b2, b3, b4, b5, b6⟩ := g
  exact ⟨b1.trans a1, b2.trans a2, b3.trans a3, fun f a h => (b4 f a h).trans (a4 f a h), fun a h => (b5 a h).trans (a5 a h), Int32.le_trans a6 b6⟩
theorem FB.mono {P P' : Nat → Nat → Prop} {Q Q' : Nat → Prop} {A A' : Mm} (hP : ∀ f a, P f a → P' f a) (hQ : ∀ a, Q a → Q' a) (h : FB P Q A A') : FB P' Q' A A' := by
  obtain ⟨a1, a2, a3, a4, a5, a6⟩ := h
  exact ⟨a1, a2, a3, fun f a h => a4 f a (fun e => h (hP f a e)), fun a h => a5 a (fun e => h (hQ a e)), a6⟩
theorem FrA.fb {A A' : Mm} (h : FrA A A') : FB PL QL A A' := by
  obtain ⟨g1, g2, g3, g4, g5⟩ := h.gen
  exact ⟨g1, g2, g3, g4, g5, h.2.2.2.2.2.2⟩
def FCA (k : Nat) (A A' : Mm) : Prop := FB (PCa k) (QCa k) A A'
def FCM (c : Nat) (M M' : Mm) : Prop := FM (PCx c) noG BLx (QCx c) M M'
theorem FF.ca {S : Nat → Prop} {k : Nat} {A A' : Mm} (h : FF S (342 + 4 * k) A A') (hS : ∀ f, S f → 768 ≤ f ∧ f < 832) : FCA k A A' := ⟨h.1, h.2.1, h.2.2.1, fun f a n => h.2.2.2.2 f a (fun e => n (Or.inr (⟨(hS f e.1).1, (hS f e.1).2, e.2⟩))), fun a _ => by rw [h.2.2.2.1], by rw [h.2.2.2.2 1049 323 (fun e => absurd (hS _ e.1).2 (by decide))]; exact Int32.le_refl _⟩
theorem FF.cm {S : Nat → Prop} {c o : Nat} {M M' : Mm} (h : FF S o M M') (ho : o = c ∨ o = c + 2 ∨ o = c + 5) : FCM c M M' := ⟨by rw [h.1]; exact Nat.le_refl _, fun a _ => by rw [h.1]; exact ⟨rfl, rfl⟩, fun f a _ _ => by rw [h.2.1], fun a _ _ => by rw [h.2.2.1], fun f a _ n => h.2.2.2.2 f a (fun e => n (by unfold PCx; rw [e.2]; omega)), fun a _ _ => by rw [h.2.2.2.1]⟩
theorem FCA_330 {k : Nat} {A : Mm} (g : Nat → Int32) : FCA k A (wA A 330 g) := ⟨rfl, rfl, rfl, fun _ _ _ => rfl, fun a n => mA_wA_ne (fun e => n (by unfold QCa; omega)), Int32.le_refl _⟩
theorem FCM_305 {c : Nat} {M : Mm} (g : Nat → Int32) : FCM c M (wA M 305 g) := ⟨Nat.le_refl _, fun _ _ => ⟨rfl, rfl⟩, fun _ _ _ _ => rfl, fun _ _ _ => rfl, fun _ _ _ _ => rfl, fun a _ n => mA_wA_ne (fun e => n (by unfold QCx; omega))⟩
theorem FCA.tr {k : Nat} {A A' A'' : Mm} (h : FCA k A A') (g : FCA k A' A'') : FCA k A A'' := FB.tr h g
theorem FCM.tr {c : Nat} {M M' M'' : Mm} (h : FCM c M M') (g : FCM c M' M'') : FCM c M M'' := FM.tr h g
theorem FrA.ca {k : Nat} {A A' : Mm} (h : FrA A A') : FCA k A A' := FB.mono (fun f a q => Or.inl q) (fun a q => Or.inl q) h.fb
theorem FrM.cm {c : Nat} {M M' : Mm} (h : FrM M M') : FCM c M M' := FM.mono (fun t f a q => Or.inl q) (fun f a q => q) (fun a q => q) (fun u t s a q => Or.inl q) h.gen
