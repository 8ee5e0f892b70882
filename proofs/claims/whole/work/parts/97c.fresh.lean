/-! ===== part 97c: a new acknowledgement, in both ===== -/
def SAg (f : Nat) : Prop := f = 779 ∨ f = 786
def SXg (f : Nat) : Prop := f = 321 ∨ f = 327
section Fresh
variable {A M : Mm}
theorem sp_grow (fu : Nat) (hR : RW A) {k c ms cw ss dd : Nat} (hk : k < 16) (hC : CnO M c) (hst : (mF A 768 (342 + 4 * k)) = (mF M 64 c)) (hre : (mF A 786 (342 + 4 * k)) = (mF M 327 (c + 5))) (h1 : (mF A 768 (342 + 4 * k)) = 1 → (mF A 786 (342 + 4 * k)) = 0) (m1 : (mF A 778 (342 + 4 * k)) = nI ms) (m2 : (mF M 320 (c + 5)) = nI ms) (m3 : 64 ≤ ms ∧ ms ≤ 1460) (w1 : (mF A 779 (342 + 4 * k)) = nI cw) (w2 : (mF M 321 (c + 5)) = nI cw) (w3 : 64 ≤ cw ∧ cw ≤ 70000) (s1 : (mF A 780 (342 + 4 * k)) = nI ss) (s2 : (mF M 322 (c + 5)) = nI ss) (s3 : 128 ≤ ss ∧ ss ≤ 65535) (hd : dd ≤ 100000) :
    ∃ A1 M1 cw', fX16_fresh_L111 fu 323 (some (342 + 4 * k)) (nI dd) A = fX16_fresh_L198 fu 323 (some (342 + 4 * k)) A1 ∧ (if (mF M 64 c) = 1 then some M else fX5_grow fu (c + 5) (nI dd) M) = some M1 ∧ FF SAg (342 + 4 * k) A A1 ∧ FF SXg (c + 5) M M1 ∧ (mF A1 779 (342 + 4 * k)) = nI cw' ∧ (mF M1 321 (c + 5)) = nI cw' ∧ 64 ≤ cw' ∧ cw' ≤ 70000 ∧ (mF A1 786 (342 + 4 * k)) = 0 ∧ (mF M1 327 (c + 5)) = 0 := by
  have hA := rw_cnO hR k hk
  obtain ⟨c1, c2, c3, c4, c5, c6, c7, c8, c9, c10, c11, c12, c13, hM⟩ := hC
  have z0 : ∀ (B : Mm) f, okA B 12 (342 + 4 * k) → pZ B 12 f (some (342 + 4 * k)) 0 = some (sF B f (342 + 4 * k) 0) := fun B f h => pZ_ok h (Or.inl rfl)
  have y0 : ∀ (B : Mm) f, okA B 5 (c + 5) → pZ B 5 f (some (c + 5)) 0 = some (sF B f (c + 5) 0) := fun B f h => pZ_ok h (Or.inl rfl)
  unfold fX16_fresh_L111 fX16_fresh_L182 fX5_grow
  by_cases cr : (mF A 786 (342 + 4 * k)) = 0
  · have crx : (mF M 327 (c + 5)) = 0 := hre.symm.trans cr
    by_cases cs : (mF A 768 (342 + 4 * k)) = 1
    · have csx : (mF M 64 c) = 1 := hst.symm.trans cs
      refine ⟨A, M, cw, ?_, by rw [if_pos csx], FF.rf, FF.rf, w1, w2, w3.1, w3.2, cr, crx⟩
      simp only [gI_ok, hA, ob_some, cr, cs, if_true]
    · have csx : ¬ (mF M 64 c) = 1 := fun e => cs (hst.trans e)
      by_cases cg : ss ≤ cw
      · have e1 : nI ms * nI ms = nI (ms * ms) := pk_mul ms ms
        have hmm : ms * ms ≤ 1460 * 1460 := Nat.mul_le_mul m3.2 m3.2
        have e2 : nI (ms * ms) / nI cw = nI (ms * ms / cw) := pk_div (by omega) (by omega) (by omega)
        have hq : ms * ms / cw ≤ ms * ms := Nat.div_le_self _ _
        have e3 : jmax (1 : Int32) (nI (ms * ms / cw)) = nI (max 1 (ms * ms / cw)) := jmax_nI (a := 1) (by decide) (by omega)
        have e4 : jmin (65535 : Int32) (nI cw + nI (max 1 (ms * ms / cw))) = nI (min 65535 (cw + max 1 (ms * ms / cw))) := by rw [nI_add]; exact jmin_nI (a := 65535) (by decide) (by omega)
        have e5 : jmax (1 : Int32) (nI cw) = nI cw := by
          have := jmax_nI (a := 1) (b := cw) (by decide) (by omega)
          rw [Nat.max_eq_right (by omega)] at this
          exact this
        have n0 : ¬ nI cw = 0 := nI_ne0 (by omega) (by omega)
        have le : nI ss ≤ nI cw := nI_le cg (by omega)
        refine ⟨sF A 779 (342 + 4 * k) (nI (min 65535 (cw + max 1 (ms * ms / cw)))), sF M 321 (c + 5) (nI (min 65535 (cw + max 1 (ms * ms / cw)))), min 65535 (cw + max 1 (ms * ms / cw)), ?_, ?_, FF.s _ (by unfold SAg; omega), FF.s _ (by unfold SXg; omega), by simp only [mF_sF, reduceIte, Nat.reduceEqDiff, Nat.reduceAdd, Nat.reduceMul, Nat.reduceLT, Nat.reduceLeDiff, and_true, true_and, and_false, false_and, and_self, ne_eq, not_true_eq_false, not_false_eq_true, Option.some.injEq, reduceCtorEq], by simp only [mF_sF, reduceIte, Nat.reduceEqDiff, Nat.reduceAdd, Nat.reduceMul, Nat.reduceLT, Nat.reduceLeDiff, and_true, true_and, and_false, false_and, and_self, ne_eq, not_true_eq_false, not_false_eq_true, Option.some.injEq, reduceCtorEq], by omega, by omega, by simp only [mF_sF, reduceIte, Nat.reduceEqDiff, Nat.reduceAdd, Nat.reduceMul, Nat.reduceLT, Nat.reduceLeDiff, and_true, true_and, and_false, false_and, and_self, ne_eq, not_true_eq_false, not_false_eq_true, Option.some.injEq, reduceCtorEq]; exact cr, by simp only [mF_sF, reduceIte, Nat.reduceEqDiff, Nat.reduceAdd, Nat.reduceMul, Nat.reduceLT, Nat.reduceLeDiff, and_true, true_and, and_false, false_and, and_self, ne_eq, not_true_eq_false, not_false_eq_true, Option.some.injEq, reduceCtorEq]; exact crx⟩
        · simp only [gI_ok, hA, ob_some, cr, cs, if_true, if_false, w1, s1, le, m1, n0, e1, e2, e3, e4, pF_ok]
        · rw [if_neg csx]
          simp only [gI_ok, hM, ob_some, crx, if_true, w2, s2, le, m2, e5, n0, if_false, e1, e2, e3, e4, pF_ok]
      · have e3 : jmin (nI dd) (nI ms) = nI (min dd ms) := jmin_nI (by omega) (by omega)
        have e4 : jmin (65535 : Int32) (nI cw + nI (min dd ms)) = nI (min 65535 (cw + min dd ms)) := by rw [nI_add]; exact jmin_nI (a := 65535) (by decide) (by omega)
        have le : ¬ nI ss ≤ nI cw := nI_ge (by omega) (by omega)
        refine ⟨sF A 779 (342 + 4 * k) (nI (min 65535 (cw + min dd ms))), sF M 321 (c + 5) (nI (min 65535 (cw + min dd ms))), min 65535 (cw + min dd ms), ?_, ?_, FF.s _ (by unfold SAg; omega), FF.s _ (by unfold SXg; omega), by simp only [mF_sF, reduceIte, Nat.reduceEqDiff, Nat.reduceAdd, Nat.reduceMul, Nat.reduceLT, Nat.reduceLeDiff, and_true, true_and, and_false, false_and, and_self, ne_eq, not_true_eq_false, not_false_eq_true, Option.some.injEq, reduceCtorEq], by simp only [mF_sF, reduceIte, Nat.reduceEqDiff, Nat.reduceAdd, Nat.reduceMul, Nat.reduceLT, Nat.reduceLeDiff, and_true, true_and, and_false, false_and, and_self, ne_eq, not_true_eq_false, not_false_eq_true, Option.some.injEq, reduceCtorEq], by omega, by omega, by simp only [mF_sF, reduceIte, Nat.reduceEqDiff, Nat.reduceAdd, Nat.reduceMul, Nat.reduceLT, Nat.reduceLeDiff, and_true, true_and, and_false, false_and, and_self, ne_eq, not_true_eq_false, not_false_eq_true, Option.some.injEq, reduceCtorEq]; exact cr, by simp only [mF_sF, reduceIte, Nat.reduceEqDiff, Nat.reduceAdd, Nat.reduceMul, Nat.reduceLT, Nat.reduceLeDiff, and_true, true_and, and_false, false_and, and_self, ne_eq, not_true_eq_false, not_false_eq_true, Option.some.injEq, reduceCtorEq]; exact crx⟩
        · simp only [gI_ok, hA, ob_some, cr, cs, if_true, if_false, w1, s1, le, m1, e3, e4, pF_ok]
        · rw [if_neg csx]
          simp only [gI_ok, hM, ob_some, crx, if_true, w2, s2, le, m2, if_false, e3, e4, pF_ok]
  · have crx : ¬ (mF M 327 (c + 5)) = 0 := fun e => cr (hre.trans e)
    have csx : ¬ (mF M 64 c) = 1 := fun e => cr (h1 (hst.trans e))
    refine ⟨sF (sF A 786 (342 + 4 * k) 0) 779 (342 + 4 * k) (nI ss), sF (sF M 327 (c + 5) 0) 321 (c + 5) (nI ss), ss, ?_, ?_, (FF.s _ (by unfold SAg; omega)).tr (FF.s _ (by unfold SAg; omega)), (FF.s _ (by unfold SXg; omega)).tr (FF.s _ (by unfold SXg; omega)), by simp only [mF_sF, reduceIte, Nat.reduceEqDiff, Nat.reduceAdd, Nat.reduceMul, Nat.reduceLT, Nat.reduceLeDiff, and_true, true_and, and_false, false_and, and_self, ne_eq, not_true_eq_false, not_false_eq_true, Option.some.injEq, reduceCtorEq], by simp only [mF_sF, reduceIte, Nat.reduceEqDiff, Nat.reduceAdd, Nat.reduceMul, Nat.reduceLT, Nat.reduceLeDiff, and_true, true_and, and_false, false_and, and_self, ne_eq, not_true_eq_false, not_false_eq_true, Option.some.injEq, reduceCtorEq], by omega, by omega, by simp only [mF_sF, reduceIte, Nat.reduceEqDiff, Nat.reduceAdd, Nat.reduceMul, Nat.reduceLT, Nat.reduceLeDiff, and_true, true_and, and_false, false_and, and_self, ne_eq, not_true_eq_false, not_false_eq_true, Option.some.injEq, reduceCtorEq], by simp only [mF_sF, reduceIte, Nat.reduceEqDiff, Nat.reduceAdd, Nat.reduceMul, Nat.reduceLT, Nat.reduceLeDiff, and_true, true_and, and_false, false_and, and_self, ne_eq, not_true_eq_false, not_false_eq_true, Option.some.injEq, reduceCtorEq]⟩
    · simp only [gI_ok, hA, ob_some, cr, if_false, z0, ok_sF, mF_sF, s1, pF_ok, reduceIte, Nat.reduceEqDiff, Nat.reduceAdd, Nat.reduceMul, Nat.reduceLT, Nat.reduceLeDiff, and_true, true_and, and_false, false_and, and_self, ne_eq, not_true_eq_false, not_false_eq_true, Option.some.injEq, reduceCtorEq]
    · rw [if_neg csx]
      simp only [gI_ok, hM, ob_some, crx, if_false, y0, ok_sF, mF_sF, s2, pF_ok, reduceIte, Nat.reduceEqDiff, Nat.reduceAdd, Nat.reduceMul, Nat.reduceLT, Nat.reduceLeDiff, and_true, true_and, and_false, false_and, and_self, ne_eq, not_true_eq_false, not_false_eq_true, Option.some.injEq, reduceCtorEq]
end Fresh
