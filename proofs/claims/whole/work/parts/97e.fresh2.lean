/-! ===== part 97e: a new acknowledgement, in both ===== -/
/-- two counts of acknowledgements -/
def cn67 (g : Nat → Int32) (d : Int32) : Nat → Int32 := fun j => if j = 7 then g 7 + d else if j = 6 then g 6 + 1 else g j
section Fresh2
variable {A M : Mm}
theorem JN_67 {A' M' : Mm} (h : JN A M) (d : Int32) (hA : mA A' 330 = cn67 (mA A 330) d) (hM : mA M' 305 = cn67 (mA M 305) d) : JN A' M' := by
  intro i hi
  rw [hA, hM]
  unfold cn67
  rw [h 7 (by decide), h 6 (by decide), h i hi]
/-- the end of it in the reference -/
theorem m_L198 (fu : Nat) (hR : RW A) {k nw ro u m : Nat} {b0 : Int32} (hk : k < 16) (hnw : (mF A 1034 323) = nI nw) (hro : (mF A 781 (342 + 4 * k)) = nI ro) (hu : (mF A 772 (342 + 4 * k)) = b0 + nI u) (hm : (mF A 774 (342 + 4 * k)) = b0 + nI m) (h1 : u < 2 ^ 30) (h2 : m < 2 ^ 30) :
    ∃ A', fX16_fresh_L198 fu 323 (some (342 + 4 * k)) A = some A' ∧ FF (fun f => f = 789 ∨ f = 790 ∨ f = 792 ∨ f = 812) (342 + 4 * k) A A' ∧ (mF A' 792 (342 + 4 * k)) = 0 ∧ (mF A' 812 (342 + 4 * k)) = nI nw ∧ ((m ≤ u ∧ (mF A' 789 (342 + 4 * k)) = nI 0) ∨ (u < m ∧ (mF A' 789 (342 + 4 * k)) = nI 1 ∧ (mF A' 790 (342 + 4 * k)) = nI (nw + ro))) := by
  have hA := rw_cnO hR k hk
  have z0 : ∀ (B : Mm) f, okA B 12 (342 + 4 * k) → pZ B 12 f (some (342 + 4 * k)) 0 = some (sF B f (342 + 4 * k) 0) := fun B f h => pZ_ok h (Or.inl rfl)
  have z1 : ∀ (B : Mm) f, okA B 12 (342 + 4 * k) → pZ B 12 f (some (342 + 4 * k)) 1 = some (sF B f (342 + 4 * k) 1) := fun B f h => pZ_ok h (Or.inr rfl)
  have hb : (0 ≤ (b0 + nI u) - (b0 + nI m)) ↔ m ≤ u := bef_nI h1 h2
  unfold fX16_fresh_L198 fX16_before fX16_timerSet
  by_cases c : m ≤ u
  · have c' := hb.mpr c
    refine ⟨sF (sF (sF A 792 (342 + 4 * k) 0) 812 (342 + 4 * k) (nI nw)) 789 (342 + 4 * k) 0, ?_, ((FF.s _ (by omega)).tr (FF.s _ (by omega))).tr (FF.s _ (by omega)), by simp only [mF_sF, reduceIte, Nat.reduceEqDiff, Nat.reduceAdd, Nat.reduceMul, Nat.reduceLT, Nat.reduceLeDiff, and_true, true_and, and_false, false_and, and_self, ne_eq, not_true_eq_false, not_false_eq_true, Option.some.injEq, reduceCtorEq], by simp only [mF_sF, reduceIte, Nat.reduceEqDiff, Nat.reduceAdd, Nat.reduceMul, Nat.reduceLT, Nat.reduceLeDiff, and_true, true_and, and_false, false_and, and_self, ne_eq, not_true_eq_false, not_false_eq_true, Option.some.injEq, reduceCtorEq], Or.inl ⟨c, by simp only [mF_sF, reduceIte, Nat.reduceEqDiff, Nat.reduceAdd, Nat.reduceMul, Nat.reduceLT, Nat.reduceLeDiff, and_true, true_and, and_false, false_and, and_self, ne_eq, not_true_eq_false, not_false_eq_true, Option.some.injEq, reduceCtorEq]; rfl⟩⟩
    simp only [pF_ok, gI_ok, hA, rw_ok323 hR, ok_sF, ob_some, mF_sF, hnw, z0, hu, hm, c', if_true, rN0, b2_some, reduceIte, Nat.reduceEqDiff, Nat.reduceAdd, Nat.reduceMul, Nat.reduceLT, Nat.reduceLeDiff, and_true, true_and, and_false, false_and, and_self, ne_eq, not_true_eq_false, not_false_eq_true, Option.some.injEq, reduceCtorEq]
  · have c' : ¬ 0 ≤ (b0 + nI u) - (b0 + nI m) := fun e => c (hb.mp e)
    refine ⟨sF (sF (sF (sF (sF A 792 (342 + 4 * k) 0) 812 (342 + 4 * k) (nI nw)) 789 (342 + 4 * k) 0) 789 (342 + 4 * k) 1) 790 (342 + 4 * k) (nI (nw + ro)), ?_, ((((FF.s _ (by omega)).tr (FF.s _ (by omega))).tr (FF.s _ (by omega))).tr (FF.s _ (by omega))).tr (FF.s _ (by omega)), by simp only [mF_sF, reduceIte, Nat.reduceEqDiff, Nat.reduceAdd, Nat.reduceMul, Nat.reduceLT, Nat.reduceLeDiff, and_true, true_and, and_false, false_and, and_self, ne_eq, not_true_eq_false, not_false_eq_true, Option.some.injEq, reduceCtorEq], by simp only [mF_sF, reduceIte, Nat.reduceEqDiff, Nat.reduceAdd, Nat.reduceMul, Nat.reduceLT, Nat.reduceLeDiff, and_true, true_and, and_false, false_and, and_self, ne_eq, not_true_eq_false, not_false_eq_true, Option.some.injEq, reduceCtorEq], Or.inr ⟨by omega, by simp only [mF_sF, reduceIte, Nat.reduceEqDiff, Nat.reduceAdd, Nat.reduceMul, Nat.reduceLT, Nat.reduceLeDiff, and_true, true_and, and_false, false_and, and_self, ne_eq, not_true_eq_false, not_false_eq_true, Option.some.injEq, reduceCtorEq]; rfl, by simp only [mF_sF, reduceIte, Nat.reduceEqDiff, Nat.reduceAdd, Nat.reduceMul, Nat.reduceLT, Nat.reduceLeDiff, and_true, true_and, and_false, false_and, and_self, ne_eq, not_true_eq_false, not_false_eq_true, Option.some.injEq, reduceCtorEq]⟩⟩
    simp only [pF_ok, gI_ok, rc_ok, hA, rw_ok323 hR, ok_sF, ob_some, mF_sF, hnw, z0, hu, hm, c', if_false, rN1, b2_some, show ¬ (1 : Int32) = 0 by decide, z1, hro, nI_add, reduceIte, Nat.reduceEqDiff, Nat.reduceAdd, Nat.reduceMul, Nat.reduceLT, Nat.reduceLeDiff, and_true, true_and, and_false, false_and, and_self, ne_eq, not_true_eq_false, not_false_eq_true, Option.some.injEq, reduceCtorEq]
/-- and in the class -/
theorem x_L78 (fu : Nat) (hW : XW M) {c nw ro u a m : Nat} {b0 : Int32} (hC : CnO M c) (hnw : (mF M 641 304) = nI nw) (hro : (mF M 323 (c + 5)) = nI ro) (hu : (mF M 197 314) = b0 + nI u) (ha : (mF M 69 c) = b0 + nI a) (hm : (mF M 70 c) = b0 + nI m) (h1 : u < 2 ^ 30) (h2 : m < 2 ^ 30) (h3 : a < 2 ^ 30) :
    ∃ M', fX9_takeNew_L78 fu 317 (some c) M = some M' ∧ mS M' = mS M ∧ mG M' = mG M ∧ mB M' = mB M ∧ mA M' = mA M ∧ (∀ f b, ¬ ((f = 68 ∨ f = 69 ∨ f = 73) ∧ b = c) → ¬ ((f = 324 ∨ f = 325 ∨ f = 326) ∧ b = c + 5) → mF M' f b = mF M f b) ∧ (mF M' 325 (c + 5)) = 0 ∧ (mF M' 326 (c + 5)) = 0 ∧ (mF M' 68 c) = b0 + nI u ∧ (mF M' 69 c) = b0 + nI (max a u) ∧ (mF M' 73 c) = nI nw ∧ ((m ≤ u ∧ (mF M' 324 (c + 5)) = 2147483647) ∨ (u < m ∧ (mF M' 324 (c + 5)) = nI (nw + ro))) := by
  have hC' := hC
  obtain ⟨c1, c2, c3, c4, c5, c6, c7, c8, c9, c10, c11, c12, c13, hM⟩ := hC'
  have n1 : c ≠ c + 5 := by omega
  have n2 : c + 5 ≠ c := by omega
  have hb : (0 ≤ (b0 + nI u) - (b0 + nI m)) ↔ m ≤ u := bef_nI h1 h2
  have hb2 : (0 ≤ (b0 + nI a) - (b0 + nI u)) ↔ u ≤ a := bef_nI h3 h1
  have first : ∃ M1, fX9_takeNew_L78 fu 317 (some c) M = fX9_takeNew_L125 fu 317 (some c) M1 ∧ mS M1 = mS M ∧ mG M1 = mG M ∧ mB M1 = mB M ∧ mA M1 = mA M ∧ (∀ f b, ¬ ((f = 68 ∨ f = 69) ∧ b = c) → ¬ ((f = 325 ∨ f = 326) ∧ b = c + 5) → mF M1 f b = mF M f b) ∧ (mF M1 325 (c + 5)) = 0 ∧ (mF M1 326 (c + 5)) = 0 ∧ (mF M1 68 c) = b0 + nI u ∧ (mF M1 69 c) = b0 + nI (max a u) := by
    unfold fX9_takeNew_L78
    by_cases ca : u ≤ a
    · have ca' := hb2.mpr ca
      refine ⟨sF (sF (sF M 325 (c + 5) 0) 326 (c + 5) 0) 68 c (b0 + nI u), ?_, rfl, rfl, rfl, rfl, fun f b q1 q2 => ?_, by simp only [mF_sF, reduceIte, Nat.reduceEqDiff, Nat.reduceAdd, Nat.reduceMul, Nat.reduceLT, Nat.reduceLeDiff, and_true, true_and, and_false, false_and, and_self, ne_eq, not_true_eq_false, not_false_eq_true, Option.some.injEq, reduceCtorEq], by simp only [mF_sF, reduceIte, Nat.reduceEqDiff, Nat.reduceAdd, Nat.reduceMul, Nat.reduceLT, Nat.reduceLeDiff, and_true, true_and, and_false, false_and, and_self, ne_eq, not_true_eq_false, not_false_eq_true, Option.some.injEq, reduceCtorEq], by simp only [mF_sF, reduceIte, Nat.reduceEqDiff, Nat.reduceAdd, Nat.reduceMul, Nat.reduceLT, Nat.reduceLeDiff, and_true, true_and, and_false, false_and, and_self, ne_eq, not_true_eq_false, not_false_eq_true, Option.some.injEq, reduceCtorEq], ?_⟩
      · simp only [gR_ok, c1, c4, ok_sF, mG_sF, pF_ok, hM, ob_some, xw_ok317 hW, xw_g579_317 hW, gI_ok, xw_ok314 hW, mF_sF, hu, ha, ca', if_true, reduceIte, Nat.reduceEqDiff, Nat.reduceAdd, Nat.reduceMul, Nat.reduceLT, Nat.reduceLeDiff, and_true, true_and, and_false, false_and, and_self, ne_eq, not_true_eq_false, not_false_eq_true, Option.some.injEq, reduceCtorEq]
      · rw [mF_sF, if_neg (by omega), mF_sF, if_neg (by omega), mF_sF, if_neg (by omega)]
      · simp only [mF_sF, reduceIte, Nat.reduceEqDiff, Nat.reduceAdd, Nat.reduceMul, Nat.reduceLT, Nat.reduceLeDiff, and_true, true_and, and_false, false_and, and_self, ne_eq, not_true_eq_false, not_false_eq_true, Option.some.injEq, reduceCtorEq]; rw [ha, Nat.max_eq_left ca]
    · have ca' : ¬ 0 ≤ (b0 + nI a) - (b0 + nI u) := fun e => ca (hb2.mp e)
      refine ⟨sF (sF (sF (sF M 325 (c + 5) 0) 326 (c + 5) 0) 68 c (b0 + nI u)) 69 c (b0 + nI u), ?_, rfl, rfl, rfl, rfl, fun f b q1 q2 => ?_, by simp only [mF_sF, reduceIte, Nat.reduceEqDiff, Nat.reduceAdd, Nat.reduceMul, Nat.reduceLT, Nat.reduceLeDiff, and_true, true_and, and_false, false_and, and_self, ne_eq, not_true_eq_false, not_false_eq_true, Option.some.injEq, reduceCtorEq], by simp only [mF_sF, reduceIte, Nat.reduceEqDiff, Nat.reduceAdd, Nat.reduceMul, Nat.reduceLT, Nat.reduceLeDiff, and_true, true_and, and_false, false_and, and_self, ne_eq, not_true_eq_false, not_false_eq_true, Option.some.injEq, reduceCtorEq], by simp only [mF_sF, reduceIte, Nat.reduceEqDiff, Nat.reduceAdd, Nat.reduceMul, Nat.reduceLT, Nat.reduceLeDiff, and_true, true_and, and_false, false_and, and_self, ne_eq, not_true_eq_false, not_false_eq_true, Option.some.injEq, reduceCtorEq], ?_⟩
      · simp only [gR_ok, c1, c4, ok_sF, mG_sF, pF_ok, hM, ob_some, xw_ok317 hW, xw_g579_317 hW, gI_ok, xw_ok314 hW, mF_sF, hu, ha, ca', if_false, reduceIte, Nat.reduceEqDiff, Nat.reduceAdd, Nat.reduceMul, Nat.reduceLT, Nat.reduceLeDiff, and_true, true_and, and_false, false_and, and_self, ne_eq, not_true_eq_false, not_false_eq_true, Option.some.injEq, reduceCtorEq]
      · rw [mF_sF, if_neg (by omega), mF_sF, if_neg (by omega), mF_sF, if_neg (by omega), mF_sF, if_neg (by omega)]
      · simp only [mF_sF, reduceIte, Nat.reduceEqDiff, Nat.reduceAdd, Nat.reduceMul, Nat.reduceLT, Nat.reduceLeDiff, and_true, true_and, and_false, false_and, and_self, ne_eq, not_true_eq_false, not_false_eq_true, Option.some.injEq, reduceCtorEq]; rw [Nat.max_eq_right (by omega)]
  obtain ⟨M1, q0, q1, q2, q3, q4, q5, q6, q7, q8, q9⟩ := first
  have hC1 : CnO M1 c := by rw [show CnO M1 c = CnO M c from by unfold CnO okA; rw [q1, q2]]; exact hC
  have hW1 : XW M1 := by rw [show XW M1 = XW M from by unfold XW okA; rw [q1, q2]]; exact hW
  obtain ⟨d1, d2, d3, d4, d5, d6, d7, d8, d9, d10, d11, d12, d13, hM1⟩ := hC1
  have e70 : (mF M1 70 c) = b0 + nI m := (q5 _ _ (by omega) (by omega)).trans hm
  have e41 : (mF M1 641 304) = nI nw := (q5 _ _ (by omega) (by omega)).trans hnw
  have e23 : (mF M1 323 (c + 5)) = nI ro := (q5 _ _ (by omega) (by omega)).trans hro
  rw [q0]
  unfold fX9_takeNew_L125 fX9_takeNew_L161
  by_cases cm : m ≤ u
  · have cm' := hb.mpr cm
    refine ⟨sF (sF M1 324 (c + 5) 2147483647) 73 c (nI nw), ?_, q1, q2, q3, q4, fun f b r1 r2 => ?_, ?_, ?_, ?_, ?_, ?_, Or.inl ⟨cm, ?_⟩⟩
    · simp only [gR_ok, d1, d4, ob_some, gI_ok, q8, e70, cm', if_true, pF_ok, hM1, ok_sF, mG_sF, xw_ok317 hW1, xw_g576_317 hW1, xw_ok304 hW1, mF_sF, e41, reduceIte, Nat.reduceEqDiff, Nat.reduceAdd, Nat.reduceMul, Nat.reduceLT, Nat.reduceLeDiff, and_true, true_and, and_false, false_and, and_self, ne_eq, not_true_eq_false, not_false_eq_true, Option.some.injEq, reduceCtorEq]
    · rw [mF_sF, if_neg (by omega), mF_sF, if_neg (by omega)]; exact q5 f b (by omega) (by omega)
    all_goals simp only [mF_sF, reduceIte, Nat.reduceEqDiff, Nat.reduceAdd, Nat.reduceMul, Nat.reduceLT, Nat.reduceLeDiff, and_true, true_and, and_false, false_and, and_self, ne_eq, not_true_eq_false, not_false_eq_true, Option.some.injEq, reduceCtorEq]
    · exact q6
    · exact q7
    · exact q8
    · exact q9
  · have cm' : ¬ 0 ≤ (b0 + nI u) - (b0 + nI m) := fun e => cm (hb.mp e)
    refine ⟨sF (sF M1 324 (c + 5) (nI (nw + ro))) 73 c (nI nw), ?_, q1, q2, q3, q4, fun f b r1 r2 => ?_, ?_, ?_, ?_, ?_, ?_, Or.inr ⟨by omega, ?_⟩⟩
    · simp only [gR_ok, d1, d4, ob_some, gI_ok, q8, e70, cm', if_false, pF_ok, hM1, ok_sF, mG_sF, xw_ok317 hW1, xw_g576_317 hW1, xw_ok304 hW1, mF_sF, e41, e23, nI_add, reduceIte, Nat.reduceEqDiff, Nat.reduceAdd, Nat.reduceMul, Nat.reduceLT, Nat.reduceLeDiff, and_true, true_and, and_false, false_and, and_self, ne_eq, not_true_eq_false, not_false_eq_true, Option.some.injEq, reduceCtorEq]
    · rw [mF_sF, if_neg (by omega), mF_sF, if_neg (by omega)]; exact q5 f b (by omega) (by omega)
    all_goals simp only [mF_sF, reduceIte, Nat.reduceEqDiff, Nat.reduceAdd, Nat.reduceMul, Nat.reduceLT, Nat.reduceLeDiff, and_true, true_and, and_false, false_and, and_self, ne_eq, not_true_eq_false, not_false_eq_true, Option.some.injEq, reduceCtorEq]
    · exact q6
    · exact q7
    · exact q8
    · exact q9
theorem sp_fresh (fu : Nat) {KN KS t T k c nw im u' : Nat} {b0 : Int32} {v : Nat → Nat} (hJ : JL0 KN KS t T A M) (hk : k < 16) (hC : CnO M c) (hE : CE A M k c) (hP : CP A M k c) (hI : CI A k nw t im b0 v) (h1 : (mF A 768 (342 + 4 * k)) = 1 → (mF A 786 (342 + 4 * k)) = 0) (hN : JN A M) (ht : t ≤ 600) (hnw : (mF A 1034 323) = nI nw) (hn2 : nw ≤ 2000000000) (hack : (mF A 1059 323) = b0 + nI u') (hackx : (mF M 197 314) = (mF A 1059 323)) (hu : (v 1) < u') (hm : u' ≤ (v 3)) :
    ∃ A' M' v', fX16_fresh fu 323 (some (342 + 4 * k)) A = some A' ∧ fX9_takeNew fu 317 (some c) M = some M' ∧ JL0 KN KS t T A' M' ∧ CE A' M' k c ∧ CP A' M' k c ∧ CI A' k nw (t + 1) im b0 v' ∧ JN A' M' ∧ FCA k A A' ∧ FCM c M M' ∧ (v' 1) = u' ∧ (v' 3) = (v 3) ∧ (v' 2) = max (v 2) u' ∧ (v' 4) = (v 4) ∧ (v' 5) = (v 5) ∧ (v' 7) = (v 7) ∧ (v' 8) = (v 8) ∧ (v' 22) = nw ∧ (mF A' 812 (342 + 4 * k)) = nI nw ∧ (mF A' 786 (342 + 4 * k)) = 0 ∧ (∀ f, f = 768 ∨ f = 769 ∨ f = 770 ∨ f = 771 ∨ (774 ≤ f ∧ f ≤ 777) ∨ (794 ≤ f ∧ f ≤ 811) ∨ f = 813 → mF A' f (342 + 4 * k) = mF A f (342 + 4 * k)) ∧ (∀ f, f < 64 → mF M' f (c + 2) = mF M f (c + 2)) ∧ mF M' 64 c = mF M 64 c ∧ mA A' = mA (wA A 330 (cn67 (mA A 330) ((mF A 1059 323) - (mF A 772 (342 + 4 * k))))) ∧ mA M' = mA (wA M 305 (cn67 (mA M 305) ((mF A 1059 323) - (mF A 772 (342 + 4 * k))))) ∧ (mF M' 73 c) = nI nw := by
  have hR := hJ.1
  have hW := hJ.2.1
  have hA := rw_cnO hR k hk
  have hC' := hC
  obtain ⟨c1, c2, c3, c4, c5, c6, c7, c8, c9, c10, c11, c12, c13, hM⟩ := hC'
  have hmL := hI.mL
  have b1 := hI.hl1
  have b2' := hI.bl1
  have b3 := hI.cl1
  have hua := hI.ua
  have ham := hI.am
  obtain ⟨nq, pn1, pn2, pn3⟩ := hJ.2.2.2.2.1.2.2.2.2.1
  have enq : nI nq = nI nw := pn1.symm.trans hnw
  have enow : (mF M 641 304) = nI nw := pn2.trans enq
  have hdd : (mF A 1059 323) - (mF A 772 (342 + 4 * k)) = nI (u' - (v 1)) := by rw [hack, hI.una, sub_b0, nI_sub (by omega)]
  have hunax : (mF M 68 c) = (mF A 772 (342 + 4 * k)) := hE.una.symm
  -- the counts
  have gA6 : gA A 101 (some 330) (6 : Int32) = some (mA A 330 6) := gA_ok (i := 6) (rw_ok330 hR) (by rw [rw_ln330 hR]; decide) (by decide)
  have pA6 : ∀ x, pA A 101 (some 330) (6 : Int32) x = some (wA A 330 (fun j => if j = 6 then x else mA A 330 j)) := fun x => pA_ok (i := 6) (rw_ok330 hR) (by rw [rw_ln330 hR]; decide) (by decide)
  have hR1 : ∀ g, RW (wA A 330 g) := fun g => hR
  have gA7 : gA (wA A 330 (fun j => if j = 6 then mA A 330 6 + 1 else mA A 330 j)) 101 (some 330) (7 : Int32) = some (mA A 330 7) := by
    have := gA_ok (M := wA A 330 (fun j => if j = 6 then mA A 330 6 + 1 else mA A 330 j)) (i := 7) (rw_ok330 (hR1 _)) (by rw [rw_ln330 (hR1 _)]; decide) (by decide)
    rw [mA_wA_self] at this
    exact this
  have pA7 : ∀ x, pA (wA A 330 (fun j => if j = 6 then mA A 330 6 + 1 else mA A 330 j)) 101 (some 330) (7 : Int32) (mA A 330 7 + x) = some (wA A 330 (cn67 (mA A 330) x)) := fun x => by
    have := pA_ok (M := wA A 330 (fun j => if j = 6 then mA A 330 6 + 1 else mA A 330 j)) (t := 101) (i := 7) (v := mA A 330 7 + x) (rw_ok330 (hR1 _)) (by rw [rw_ln330 (hR1 _)]; decide) (by decide)
    rw [mA_wA_self, wA_wA] at this
    exact this
  have gM6 : gA M 101 (some 305) (6 : Int32) = some (mA M 305 6) := gA_ok (i := 6) (xw_ok305 hW) (by rw [xw_ln305 hW]; decide) (by decide)
  have pM6 : ∀ x, pA M 101 (some 305) (6 : Int32) x = some (wA M 305 (fun j => if j = 6 then x else mA M 305 j)) := fun x => pA_ok (i := 6) (xw_ok305 hW) (by rw [xw_ln305 hW]; decide) (by decide)
  have hW1 : ∀ g, XW (wA M 305 g) := fun g => hW
  have gM7 : gA (wA M 305 (fun j => if j = 6 then mA M 305 6 + 1 else mA M 305 j)) 101 (some 305) (7 : Int32) = some (mA M 305 7) := by
    have := gA_ok (M := wA M 305 (fun j => if j = 6 then mA M 305 6 + 1 else mA M 305 j)) (i := 7) (xw_ok305 (hW1 _)) (by rw [xw_ln305 (hW1 _)]; decide) (by decide)
    rw [mA_wA_self] at this
    exact this
  have pM7 : ∀ x, pA (wA M 305 (fun j => if j = 6 then mA M 305 6 + 1 else mA M 305 j)) 101 (some 305) (7 : Int32) (mA M 305 7 + x) = some (wA M 305 (cn67 (mA M 305) x)) := fun x => by
    have := pA_ok (M := wA M 305 (fun j => if j = 6 then mA M 305 6 + 1 else mA M 305 j)) (t := 101) (i := 7) (v := mA M 305 7 + x) (xw_ok305 (hW1 _)) (by rw [xw_ln305 (hW1 _)]; decide) (by decide)
    rw [mA_wA_self, wA_wA] at this
    exact this
  -- the reference's first steps
  have hat : (0 ≤ (mF A 773 (342 + 4 * k)) - (mF A 1059 323)) ↔ u' ≤ (v 2) := by rw [hI.at', hack]; exact bef_nI (by omega) (by omega)
  obtain ⟨B, fB, hB⟩ : ∃ B, fX16_fresh fu 323 (some (342 + 4 * k)) A = fX16_fresh_L67 fu 323 (some (342 + 4 * k)) ((mF A 1059 323) - (mF A 772 (342 + 4 * k))) B ∧ (FF (fun f => f = 772 ∨ f = 773) (342 + 4 * k) (wA A 330 (cn67 (mA A 330) ((mF A 1059 323) - (mF A 772 (342 + 4 * k))))) B ∧ mF B 772 (342 + 4 * k) = b0 + nI u' ∧ mF B 773 (342 + 4 * k) = b0 + nI (max (v 2) u')) := by
    unfold fX16_fresh fX16_before
    simp only [gI_ok, gR_ok, hA, rw_ok323 hR, rw_g1041_323 hR, ob_some, gA6, pA6, ok_wA, mG_wA, gA7, pA7, mF_wA, pF_ok, ok_sF, mF_sF, reduceIte, Nat.reduceEqDiff, Nat.reduceAdd, Nat.reduceMul, Nat.reduceLT, Nat.reduceLeDiff, and_true, true_and, and_false, false_and, and_self, ne_eq, not_true_eq_false, not_false_eq_true, Option.some.injEq, reduceCtorEq]
    by_cases ca : u' ≤ (v 2)
    · have ca' := hat.mpr ca
      refine ⟨sF (wA A 330 (cn67 (mA A 330) ((mF A 1059 323) - (mF A 772 (342 + 4 * k))))) 772 (342 + 4 * k) (mF A 1059 323), by simp only [ca', if_true, rN0, b2_some], FF.s _ (Or.inl rfl), by simp only [mF_sF, reduceIte, Nat.reduceEqDiff, Nat.reduceAdd, Nat.reduceMul, Nat.reduceLT, Nat.reduceLeDiff, and_true, true_and, and_false, false_and, and_self, ne_eq, not_true_eq_false, not_false_eq_true, Option.some.injEq, reduceCtorEq]; exact hack, ?_⟩
      simp only [mF_sF, mF_wA, reduceIte, Nat.reduceEqDiff, Nat.reduceAdd, Nat.reduceMul, Nat.reduceLT, Nat.reduceLeDiff, and_true, true_and, and_false, false_and, and_self, ne_eq, not_true_eq_false, not_false_eq_true, Option.some.injEq, reduceCtorEq]
      rw [hI.at', Nat.max_eq_left ca]
    · have ca' : ¬ 0 ≤ (mF A 773 (342 + 4 * k)) - (mF A 1059 323) := fun e => ca (hat.mp e)
      refine ⟨sF (sF (wA A 330 (cn67 (mA A 330) ((mF A 1059 323) - (mF A 772 (342 + 4 * k))))) 772 (342 + 4 * k) (mF A 1059 323)) 773 (342 + 4 * k) (mF A 1059 323), ?_, (FF.s _ (Or.inl rfl)).tr (FF.s _ (Or.inr rfl)), by simp only [mF_sF, reduceIte, Nat.reduceEqDiff, Nat.reduceAdd, Nat.reduceMul, Nat.reduceLT, Nat.reduceLeDiff, and_true, true_and, and_false, false_and, and_self, ne_eq, not_true_eq_false, not_false_eq_true, Option.some.injEq, reduceCtorEq]; exact hack, ?_⟩
      · simp only [ca', if_false, rN1, b2_some, show ¬ (1 : Int32) = 0 by decide, ok_sF, mF_sF, gI_ok, pF_ok, ok_wA, hA, ob_some, reduceIte, Nat.reduceEqDiff, Nat.reduceAdd, Nat.reduceMul, Nat.reduceLT, Nat.reduceLeDiff, and_true, true_and, and_false, false_and, and_self, ne_eq, not_true_eq_false, not_false_eq_true, Option.some.injEq, reduceCtorEq]
      · simp only [mF_sF, reduceIte, Nat.reduceEqDiff, Nat.reduceAdd, Nat.reduceMul, Nat.reduceLT, Nat.reduceLeDiff, and_true, true_and, and_false, false_and, and_self, ne_eq, not_true_eq_false, not_false_eq_true, Option.some.injEq, reduceCtorEq]
        rw [hack, Nat.max_eq_right (by omega)]
  obtain ⟨fB1, fB2, fB3⟩ := hB
  have hRB : RW B := fB1.rW (hR1 _)
  have hC0 : CnO (wA M 305 (cn67 (mA M 305) ((mF A 1059 323) - (mF A 772 (342 + 4 * k))))) c := hC
  have BF : ∀ f a, ¬ ((f = 772 ∨ f = 773) ∧ a = 342 + 4 * k) → mF B f a = mF A f a := fun f a h => fB1.2.2.2.2 f a h
  have hPB : CP B (wA M 305 (cn67 (mA M 305) ((mF A 1059 323) - (mF A 772 (342 + 4 * k))))) k c := CP_congr (A := A) (M := M) (fun f h1 h2 => BF _ _ (by omega)) (fun _ _ _ => rfl) hP
  have hTB : CT B k nw t v := CT_of hI (fun f h1 h2 => BF _ _ (by omega))
  have eB59 : (mF B 1059 323) = (mF A 1059 323) := BF _ _ (by omega)
  obtain ⟨A1, M1, ti, me, sr, vr, ro, t1, t2, t3, t4, t5, t6, t7, t8, t9, t10, t11, t12, t13, t14, t15, t16, t17⟩ := sp_timing fu hRB hk hC0 hPB hTB ht ((BF _ _ (by omega)).trans hnw) hn2 ((mF A 1059 323) - (mF A 772 (342 + 4 * k)))
  rw [eB59] at t2 t9
  rw [BF 787 (342 + 4 * k) (by omega)] at t9
  have F1 : ∀ f a, ¬ ((f = 772 ∨ f = 773) ∧ a = 342 + 4 * k) → ¬ (SAt f ∧ a = 342 + 4 * k) → mF A1 f a = mF A f a := fun f a g1 g2 => (t3.2.2.2.2 f a g2).trans (BF f a g1)
  have X1 : ∀ f a, ¬ (SXt f ∧ a = c + 5) → mF M1 f a = mF M f a := fun f a g => t4.2.2.2.2 f a g
  have nSA : ∀ f, ¬ ((781 ≤ f ∧ f ≤ 785) ∨ f = 791) → ¬ SAt f := fun f h => h
  have nSX : ∀ f, ¬ (f = 323 ∨ f = 328 ∨ (331 ≤ f ∧ f ≤ 333)) → ¬ SXt f := fun f h => h
  have hR1' : RW A1 := t3.rW hRB
  have hC1 : CnO M1 c := t4.cN hC0
  have hms := hP.ms
  obtain ⟨A2, M2, cw', g1, g2, g3, g4, g5, g6, g7, g8, g9, g10⟩ := sp_grow (A := A1) (M := M1) fu hR1' (k := k) (c := c) (ms := (v 9)) (cw := (v 10)) (ss := (v 11)) (dd := u' - (v 1)) hk hC1
    (by rw [F1 768 _ (by omega) (fun e => nSA 768 (by omega) e.1), X1 64 c (by omega)]; exact hE.st)
    (by rw [F1 786 _ (by omega) (fun e => nSA 786 (by omega) e.1), X1 327 _ (fun e => nSX 327 (by omega) e.1)]; exact hP.re)
    (by rw [F1 768 _ (by omega) (fun e => nSA 768 (by omega) e.1), F1 786 _ (by omega) (fun e => nSA 786 (by omega) e.1)]; exact h1)
    ((F1 778 _ (by omega) (fun e => nSA 778 (by omega) e.1)).trans hI.ms) ((X1 320 _ (fun e => nSX 320 (by omega) e.1)).trans (hP.ms.symm.trans hI.ms)) hI.ms1
    ((F1 779 _ (by omega) (fun e => nSA 779 (by omega) e.1)).trans hI.cw) ((X1 321 _ (fun e => nSX 321 (by omega) e.1)).trans (hP.cw.symm.trans hI.cw)) hI.cw1
    ((F1 780 _ (by omega) (fun e => nSA 780 (by omega) e.1)).trans hI.ss) ((X1 322 _ (fun e => nSX 322 (by omega) e.1)).trans (hP.ss.symm.trans hI.ss)) hI.ss1 (by omega)
  have F2 : ∀ f a, ¬ ((f = 772 ∨ f = 773 ∨ f = 779 ∨ f = 786 ∨ f = 791 ∨ (781 ≤ f ∧ f ≤ 785)) ∧ a = 342 + 4 * k) → mF A2 f a = mF A f a := fun f a g => (g3.2.2.2.2 f a (fun e => g ⟨by have := e.1; unfold SAg at this; omega, e.2⟩)).trans (F1 f a (fun e => g ⟨by omega, e.2⟩) (fun e => g ⟨by have := e.1; unfold SAt at this; omega, e.2⟩))
  have X2 : ∀ f a, ¬ ((f = 321 ∨ f = 327 ∨ f = 323 ∨ f = 328 ∨ (331 ≤ f ∧ f ≤ 333)) ∧ a = c + 5) → mF M2 f a = mF M f a := fun f a g => (g4.2.2.2.2 f a (fun e => g ⟨by have := e.1; unfold SXg at this; omega, e.2⟩)).trans (X1 f a (fun e => g ⟨by have := e.1; unfold SXt at this; omega, e.2⟩))
  have A2k : ∀ f, ¬ SAg f → mF A2 f (342 + 4 * k) = mF A1 f (342 + 4 * k) := fun f h => g3.2.2.2.2 f _ (fun e => h e.1)
  have M2k : ∀ f, ¬ SXg f → mF M2 f (c + 5) = mF M1 f (c + 5) := fun f h => g4.2.2.2.2 f _ (fun e => h e.1)
  have nAg : ∀ f, ¬ (f = 779 ∨ f = 786) → ¬ SAg f := fun f h => h
  have nXg : ∀ f, ¬ (f = 321 ∨ f = 327) → ¬ SXg f := fun f h => h
  have A1k : ∀ f, ¬ SAt f → mF A1 f (342 + 4 * k) = mF B f (342 + 4 * k) := fun f h => t3.2.2.2.2 f _ (fun e => h e.1)
  have hR2 : RW A2 := g3.rW hR1'
  have hW2 : XW M2 := g4.xW (t4.xW (hW1 _))
  have hC2 : CnO M2 c := g4.cN hC1
  have e72 : (mF A2 772 (342 + 4 * k)) = b0 + nI u' := (A2k 772 (nAg _ (by omega))).trans ((A1k 772 (nSA _ (by omega))).trans fB2)
  have e73 : (mF A2 773 (342 + 4 * k)) = b0 + nI (max (v 2) u') := (A2k 773 (nAg _ (by omega))).trans ((A1k 773 (nSA _ (by omega))).trans fB3)
  have e74 : (mF A2 774 (342 + 4 * k)) = b0 + nI (v 3) := (F2 774 _ (by omega)).trans hI.max
  have e81 : (mF A2 781 (342 + 4 * k)) = nI ro := (A2k 781 (nAg _ (by omega))).trans t14
  obtain ⟨A', p1, p2, p3, p4, p5⟩ := m_L198 fu hR2 (ro := ro) (u := u') (m := (v 3)) hk ((F2 1034 323 (by omega)).trans hnw) e81 e72 e74 (by omega) (by omega)
  have x23 : (mF M2 323 (c + 5)) = nI ro := (M2k 323 (nXg _ (by omega))).trans t15
  obtain ⟨M', q1, q2, q3, q4, q5, q6, q7, q8, q9, q10, q11, q12⟩ := x_L78 fu hW2 (nw := nw) (ro := ro) (u := u') (a := (v 2)) (m := (v 3)) (b0 := b0) hC2 ((X2 641 304 (by omega)).trans enow) x23 ((X2 197 314 (by omega)).trans (hackx.trans hack)) ((X2 69 c (by omega)).trans (hE.at'.symm.trans hI.at')) ((X2 70 c (by omega)).trans (hE.max.symm.trans hI.max)) (by omega) (by omega) (by omega)
  have FA' : ∀ f a, ¬ ((f = 772 ∨ f = 773 ∨ f = 779 ∨ f = 786 ∨ f = 791 ∨ (781 ≤ f ∧ f ≤ 785) ∨ f = 789 ∨ f = 790 ∨ f = 792 ∨ f = 812) ∧ a = 342 + 4 * k) → mF A' f a = mF A f a := fun f a g => (p2.2.2.2.2 f a (fun e => g ⟨by omega, e.2⟩)).trans (F2 f a (fun e => g ⟨by omega, e.2⟩))
  have A'k : ∀ f, ¬ (f = 789 ∨ f = 790 ∨ f = 792 ∨ f = 812) → mF A' f (342 + 4 * k) = mF A2 f (342 + 4 * k) := fun f h => p2.2.2.2.2 f _ (fun e => h e.1)
  have M'k : ∀ f, ¬ (f = 324 ∨ f = 325 ∨ f = 326) → mF M' f (c + 5) = mF M2 f (c + 5) := fun f h => q6 f _ (by omega) (fun e => h e.1)
  have M'c : ∀ f, ¬ (f = 68 ∨ f = 69 ∨ f = 73) → mF M' f c = mF M f c := fun f h => (q6 f c (fun e => h e.1) (by omega)).trans (X2 f c (by omega))
  have M'o : ∀ f a, a ≠ c → a ≠ c + 5 → mF M' f a = mF M f a := fun f a g1 g2 => (q6 f a (fun e => g1 e.2) (fun e => g2 e.2)).trans (X2 f a (fun e => g2 e.2))
  have aA : mA A' = mA (wA A 330 (cn67 (mA A 330) ((mF A 1059 323) - (mF A 772 (342 + 4 * k))))) := by rw [p2.2.2.2.1, g3.2.2.2.1, t3.2.2.2.1, fB1.2.2.2.1]
  have aM : mA M' = mA (wA M 305 (cn67 (mA M 305) ((mF A 1059 323) - (mF A 772 (342 + 4 * k))))) := by rw [q5, g4.2.2.2.1, t4.2.2.2.1]
  have aS : mS A' = mS A := by rw [p2.1, g3.1, t3.1, fB1.1]; rfl
  have aG : mG A' = mG A := by rw [p2.2.1, g3.2.1, t3.2.1, fB1.2.1]; rfl
  have aB : mB A' = mB A := by rw [p2.2.2.1, g3.2.2.1, t3.2.2.1, fB1.2.2.1]; rfl
  have xS : mS M' = mS M := by rw [q2, g4.1, t4.1]; rfl
  have xG : mG M' = mG M := by rw [q3, g4.2.1, t4.2.1]; rfl
  have xB : mB M' = mB M := by rw [q4, g4.2.2.1, t4.2.2.1]; rfl
  have c305 : ∀ a, okA M 100 a → a ≠ 305 := fun a h e => by subst e; exact absurd (h.2.2.symm.trans (xw_ok305 hW).2.2) (by decide)
  have e85 : (mF A' 785 (342 + 4 * k)) = nI ti := (A'k 785 (by omega)).trans ((A2k 785 (nAg _ (by omega))).trans t6)
  have x28 : (mF M' 328 (c + 5)) = nI ti := (M'k 328 (by omega)).trans ((M2k 328 (nXg _ (by omega))).trans t7)
  have e84 : (mF A' 784 (342 + 4 * k)) = nI me := (A'k 784 (by omega)).trans ((A2k 784 (nAg _ (by omega))).trans t10)
  have x31 : (mF M' 331 (c + 5)) = nI me := (M'k 331 (by omega)).trans ((M2k 331 (nXg _ (by omega))).trans t11)
  have e87 : (mF A' 787 (342 + 4 * k)) = (mF A 787 (342 + 4 * k)) := FA' _ _ (by omega)
  have e88 : (mF A' 788 (342 + 4 * k)) = (mF A 788 (342 + 4 * k)) := FA' _ _ (by omega)
  have ti10 : ti = 1 → u' ≤ (v 17) ∧ u' < (v 3) := fun h => by
    obtain ⟨h2, h3⟩ := t9 h
    obtain ⟨w1, w2, w3, w4, w5, w6, w7⟩ := hI.tn h2
    rw [hack, w2] at h3
    have h4 : ¬ (v 17) < u' := fun h5 => h3 (Int32.not_le.mp (fun h6 => by
      have := (beh_nI (b := b0) (show u' < 2 ^ 30 by omega) (show (v 17) < 2 ^ 30 by omega)).mp h6
      omega))
    omega
  have tnz : (mF A' 785 (342 + 4 * k)) ≠ 0 → ti = 1 := fun h => by
    rw [e85] at h
    have : ti ≠ 0 := fun e => h (by rw [e]; rfl)
    omega
  have mez : (mF A' 784 (342 + 4 * k)) ≠ 0 → me = 1 := fun h => by
    rw [e84] at h
    have : me ≠ 0 := fun e => h (by rw [e]; rfl)
    omega
  obtain ⟨w, w0, wu, wa, wm, whl, wbl, wbp, wcl, wfn, wms, wcw, wss, wro, wwi, won, wtm, wti, wtn, wta, wme, wsr, wvr, wla, wsi⟩ : ∃ w : Nat → Nat, (w 0) = (v 0) ∧ (w 1) = u' ∧ (w 2) = max (v 2) u' ∧ (w 3) = (v 3) ∧ (w 4) = (v 4) ∧ (w 5) = (v 5) ∧ (w 6) = (v 6) ∧ (w 7) = (v 7) ∧ (w 8) = (v 8) ∧ (w 9) = (v 9) ∧ (w 10) = cw' ∧ (w 11) = (v 11) ∧ (w 12) = ro ∧ (w 13) = (v 13) ∧ (w 14) = (if u' < (v 3) then 1 else 0) ∧ (w 15) = nw + ro ∧ (w 16) = ti ∧ (w 17) = (v 17) ∧ (w 18) = (v 18) ∧ (w 19) = me ∧ (w 20) = sr ∧ (w 21) = vr ∧ (w 22) = nw ∧ (w 23) = (v 23) :=
    ⟨fun i => if i = 1 then u' else if i = 2 then max (v 2) u' else if i = 10 then cw' else if i = 12 then ro else if i = 14 then (if u' < (v 3) then 1 else 0) else if i = 15 then nw + ro else if i = 16 then ti else if i = 19 then me else if i = 20 then sr else if i = 21 then vr else if i = 22 then nw else v i, rfl, rfl, rfl, rfl, rfl, rfl, rfl, rfl, rfl, rfl, rfl, rfl, rfl, rfl, rfl, rfl, rfl, rfl, rfl, rfl, rfl, rfl, rfl, rfl⟩
  have hon : (mF A' 789 (342 + 4 * k)) = nI (w 14) ∧ ((w 14) = 1 → (mF A' 790 (342 + 4 * k)) = nI (nw + ro) ∧ u' < (v 3)) ∧ (((mF A' 789 (342 + 4 * k)) = 0 ∧ (mF M' 324 (c + 5)) = 2147483647) ∨ ((mF A' 789 (342 + 4 * k)) = 1 ∧ (mF A' 790 (342 + 4 * k)) = (mF M' 324 (c + 5)))) := by
    rw [won]
    rcases p5 with ⟨r1, r2⟩ | ⟨r1, r2, r3⟩
    · rw [if_neg (by omega)]
      refine ⟨r2, fun h => absurd h (by decide), Or.inl ⟨r2, ?_⟩⟩
      rcases q12 with ⟨_, r4⟩ | ⟨r4, _⟩
      · exact r4
      · omega
    · rw [if_pos r1]
      refine ⟨r2, fun _ => ⟨r3, r1⟩, Or.inr ⟨r2, ?_⟩⟩
      rcases q12 with ⟨r4, _⟩ | ⟨_, r4⟩
      · omega
      · rw [r3, r4]
  refine ⟨A', M', w, ?_, ?_, ?_, ?_, ?_, ?_, ?_, ?_, ?_, wu, wm, wa, whl, wbl, wcl, wfn, wla, p4, (A'k 786 (by omega)).trans g9, fun f h => FA' f _ (by omega), fun f h => M'o f _ (by omega) (by omega), M'c 64 (by omega), aA, aM, q11⟩
  · rw [fB, t1, hdd, g1, p1]
  · unfold fX9_takeNew
    simp only [gR_ok (xw_ok317 hW), xw_g579_317 hW, xw_g576_317 hW, gI_ok (xw_ok314 hW), gI_ok c1, gR_ok (xw_ok304 hW), xw_g640_304 hW, ob_some, gM6, pM6, gR_ok (xw_ok317 (hW1 _)), xw_g576_317 (hW1 _), gR_ok (xw_ok304 (hW1 _)), xw_g640_304 (hW1 _), gM7, pM7, xw_g579_317 (hW1 _), gI_ok (xw_ok314 (hW1 _)), gI_ok (xw_ok304 (hW1 _)), mF_wA, hackx, hunax, enow, gR_ok (show okA (wA M 305 (cn67 (mA M 305) ((mF A 1059 323) - (mF A 772 (342 + 4 * k))))) 1 c from c1), mG_wA, c4, rc_ok (show okA (wA M 305 (cn67 (mA M 305) ((mF A 1059 323) - (mF A 772 (342 + 4 * k))))) 5 (c + 5) from hM), t2]
    have d1 : okA M1 1 c := hC1.1
    have d4 : (mG M1 81 c) = some (c + 5) := hC1.2.2.2.1
    have d5 : okA M1 5 (c + 5) := hC1.2.2.2.2.2.2.2.2.2.2.2.2.2
    simp only [gI_ok d1, gR_ok d1, d4, rc_ok d5, ob_some, hdd]
    by_cases cs : (mF M1 64 c) = 1
    · rw [if_pos cs] at g2 ⊢
      cases g2
      exact q1
    · rw [if_neg cs] at g2 ⊢
      rw [g2, ob_some]
      exact q1
  · refine JL0_cn hJ hC aS aG aB (fun f a h => FA' f a (by unfold JLf at h; omega)) (fun a h => by rw [aA, mA_wA_ne (by omega)]) xS xG xB (fun f a h1 h2 h3 _ => M'o f a h1 h3) (fun a _ _ _ h4 _ _ _ => by rw [aM, mA_wA_ne h4])
  · refine CE.mk ?_ ?_ ?_ ?_ ?_ ?_ ?_ ?_ ?_ ?_ ?_ ?_ ?_ ?_ ?_ ?_ ?_ ?_
    · rw [FA' _ _ (by omega), M'c _ (by omega)]; exact hE.st
    · rw [FA' _ _ (by omega), M'c _ (by omega)]; exact hE.ip
    · rw [FA' _ _ (by omega), M'c _ (by omega)]; exact hE.po
    · rw [FA' _ _ (by omega), M'c _ (by omega)]; exact hE.is
    · rw [A'k _ (by omega), e72, q9]
    · rw [A'k _ (by omega), e73, q10]
    · rw [FA' _ _ (by omega), M'c _ (by omega)]; exact hE.max
    · rw [FA' _ _ (by omega), M'c _ (by omega)]; exact hE.wi
    · rw [FA' _ _ (by omega), M'c _ (by omega)]; exact hE.w1
    · rw [FA' _ _ (by omega), M'c _ (by omega)]; exact hE.w2
    · rw [FA' _ _ (by omega), M'c _ (by omega)]; exact hE.hl
    · rw [FA' _ _ (by omega), M'c _ (by omega)]; exact hE.bl
    · rw [FA' 796 _ (by omega), FA' 795 _ (by omega), M'c _ (by omega)]; exact hE.bp
    · rw [FA' _ _ (by omega), M'c _ (by omega)]; exact hE.bg
    · rw [FA' _ _ (by omega), M'c _ (by omega)]; exact hE.cl
    · intro _; rw [p4, q11]
    · rw [FA' 768 _ (by omega), FA' 813 _ (by omega), M'c _ (by omega)]; exact hE.li
    · rw [FA' _ _ (by omega), aA, aM, mA_wA_ne (show 343 + 4 * k ≠ 330 by omega), mA_wA_ne (c305 _ c5)]; exact hE.hd
  · refine CP.mk ?_ ?_ ?_ ?_ ?_ ?_ ?_ ?_ ?_ ?_ ?_ hon.2.2
    · rw [FA' _ _ (by omega), M'k _ (by omega), X2 _ _ (by omega)]; exact hP.ms
    · rw [A'k _ (by omega), g5, M'k _ (by omega), g6]
    · rw [FA' _ _ (by omega), M'k _ (by omega), X2 _ _ (by omega)]; exact hP.ss
    · rw [A'k _ (by omega), e81, M'k _ (by omega), x23]
    · rw [A'k _ (by omega), A2k _ (nAg _ (by omega)), t5, q7]
    · rw [p3, q8]
    · rw [A'k _ (by omega), g9, M'k _ (by omega), g10]
    · rw [e85, x28]
    · intro h
      have h1 := tnz h
      obtain ⟨h2, -⟩ := t9 h1
      rw [e87, e88, M'k _ (by omega), M'k _ (by omega), X2 _ _ (by omega), X2 _ _ (by omega)]
      exact hP.tn (by rw [hI.ti, h2]; decide)
    · rw [e84, x31]
    · intro h
      obtain ⟨r1, r2, r3, r4, r5, r6⟩ := t13 (mez h)
      rw [A'k _ (by omega), A'k _ (by omega), A2k _ (nAg _ (by omega)), A2k _ (nAg _ (by omega)), M'k _ (by omega), M'k _ (by omega), M2k _ (nXg _ (by omega)), M2k _ (nXg _ (by omega)), r1, r2, r4, r5]
      exact ⟨rfl, rfl⟩
  · refine CI.mk ?_ ?_ ?_ ?_ (by omega) (by omega) (by omega) ?_ (by omega) ?_ (by omega) ?_ ?_ (by omega) ?_ (by have := hI.fn1; omega) (by have := hI.fnI; rw [wfn, wcl, wm, whl, wbl]; exact this) ?_ (by rw [wms]; exact hI.ms1) ?_ (by omega) ?_ (by rw [wss]; exact hI.ss1) ?_ (by omega) ?_ (by rw [wwi]; exact hI.wi1) hon.1 (by rw [won]; split <;> omega) ?_ ?_ (by omega) ?_ ?_ (by omega) ?_
    · rw [FA' _ _ (by omega)]; exact hI.bg
    · rw [A'k _ (by omega), e72, wu]
    · rw [A'k _ (by omega), e73, wa]
    · rw [FA' _ _ (by omega), wm]; exact hI.max
    · rw [FA' _ _ (by omega), whl]; exact hI.hl
    · rw [FA' _ _ (by omega), wbl]; exact hI.bl
    · rw [wbl, wbp, FA' _ _ (by omega)]; exact hI.bp
    · rw [FA' _ _ (by omega), wcl]; exact hI.cl
    · rw [FA' _ _ (by omega), wfn]; exact hI.fn
    · rw [FA' _ _ (by omega), wms]; exact hI.ms
    · rw [A'k _ (by omega), g5, wcw]
    · rw [FA' _ _ (by omega), wss]; exact hI.ss
    · rw [A'k _ (by omega), e81, wro]
    · rw [FA' _ _ (by omega), wwi]; exact hI.wi
    · intro h
      obtain ⟨r1, r2⟩ := hon.2.1 h
      rw [wtm, wu, whl, wbl, wcl]
      exact ⟨r1, by omega, by omega, fun _ => by omega⟩
    · rw [e85, wti]
    · intro h
      rw [wti] at h
      obtain ⟨h2, -⟩ := t9 h
      obtain ⟨r1, r2, r3, r4, r5, r6, r7⟩ := hI.tn h2
      obtain ⟨-, m2, -⟩ := hI.tm r1
      obtain ⟨h3, h4⟩ := ti10 h
      rw [won, if_pos h4, e87, e88, wtn, wta, wu, wm, wtm]
      exact ⟨rfl, r2, h3, r4, r5, r6, by omega⟩
    · rw [e84, wme]
    · intro h
      rw [wme] at h
      obtain ⟨r1, r2, r3, r4, r5, r6⟩ := t13 h
      rw [wsr, wvr, A'k _ (by omega), A'k _ (by omega), A2k _ (nAg _ (by omega)), A2k _ (nAg _ (by omega))]
      exact ⟨r1, r3, r4, r6⟩
  · exact JN_67 hN _ (by rw [aA, mA_wA_self]) (by rw [aM, mA_wA_self])
  · exact (((FCA_330 _).tr (fB1.ca (fun f h => by omega))).tr (t3.ca (fun f h => by unfold SAt at h; omega))).tr ((g3.ca (fun f h => by unfold SAg at h; omega)).tr (p2.ca (fun f h => by omega)))
  · refine (((FCM_305 _).tr (t4.cm (Or.inr (Or.inr rfl)))).tr (g4.cm (Or.inr (Or.inr rfl)))).tr ⟨by rw [q2]; exact Nat.le_refl _, fun a _ => by rw [q2]; exact ⟨rfl, rfl⟩, fun f a _ _ => by rw [q3], fun a _ _ => by rw [q4], fun f a _ h => q6 f a (fun e => h (by unfold PCx; omega)) (fun e => h (by unfold PCx; omega)), fun a _ _ => by rw [q5]⟩
end Fresh2
