/-! ===== part 97f: what is noted of a segment that goes out ===== -/
def cn3 (g : Nat → Int32) : Nat → Int32 := fun j => if j = 3 then g 3 + 1 else g j
/-- the notes after a segment from number f on: v's with these places changed -/
def ntd (v w : Nat → Nat) (nw f : Nat) : Prop := (w 0) = (v 0) ∧ (w 1) = (v 1) ∧ (w 2) = (v 2) ∧ (w 3) = (v 3) ∧ (w 4) = (v 4) ∧ (w 5) = (v 5) ∧ (w 6) = (v 6) ∧ (w 7) = (v 7) ∧ (w 8) = (v 8) ∧ (w 9) = (v 9) ∧ (w 10) = (v 10) ∧ (w 11) = (v 11) ∧ (w 12) = (v 12) ∧ (w 13) = (v 13) ∧ (w 14) = 1 ∧ (w 15) = (if (v 14) = 1 then (v 15) else nw + (v 12)) ∧ (w 16) = (if f < (v 3) then 0 else 1) ∧ (w 17) = (if (v 16) = 1 then (v 17) else f) ∧ (w 18) = (if (v 16) = 1 then (v 18) else nw) ∧ (w 19) = (v 19) ∧ (w 20) = (v 20) ∧ (w 21) = (v 21) ∧ (w 22) = (v 22) ∧ (w 23) = (v 23)
theorem ntd_ex (v : Nat → Nat) (nw f : Nat) : ∃ w, ntd v w nw f := ⟨fun i => if i = 14 then 1 else if i = 15 then (if (v 14) = 1 then (v 15) else nw + (v 12)) else if i = 16 then (if f < (v 3) then 0 else 1) else if i = 17 then (if (v 16) = 1 then (v 17) else f) else if i = 18 then (if (v 16) = 1 then (v 18) else nw) else v i, rfl, rfl, rfl, rfl, rfl, rfl, rfl, rfl, rfl, rfl, rfl, rfl, rfl, rfl, rfl, rfl, rfl, rfl, rfl, rfl, rfl, rfl, rfl, rfl⟩
section Noted
variable {A M : Mm}
theorem m_noted (fu : Nat) (hR : RW A) {k nw t im f : Nat} {b0 : Int32} {v w : Nat → Nat} (hk : k < 16) (hI : CIw A k nw t im b0 v) (hnw : (mF A 1034 323) = nI nw) (hf : f ≤ (v 3)) (hw : ntd v w nw f) :
    ∃ A1, fX16_noted fu 323 (some (342 + 4 * k)) (b0 + nI f) A = some A1 ∧ mS A1 = mS A ∧ mG A1 = mG A ∧ mB A1 = mB A ∧ mA A1 = mA (if f < (v 3) then wA A 330 (cn3 (mA A 330)) else A) ∧ (∀ g a, ¬ ((g = 785 ∨ g = 787 ∨ g = 788 ∨ g = 789 ∨ g = 790) ∧ a = 342 + 4 * k) → mF A1 g a = mF A g a) ∧ (mF A1 785 (342 + 4 * k)) = nI (w 16) ∧ ((w 16) = 1 → (mF A1 787 (342 + 4 * k)) = b0 + nI (w 17) ∧ (mF A1 788 (342 + 4 * k)) = nI (w 18)) ∧ (mF A1 789 (342 + 4 * k)) = nI 1 ∧ (mF A1 790 (342 + 4 * k)) = nI (w 15) := by
  have hA := rw_cnO hR k hk
  have z0 : ∀ (B : Mm) f, okA B 12 (342 + 4 * k) → pZ B 12 f (some (342 + 4 * k)) 0 = some (sF B f (342 + 4 * k) 0) := fun B f h => pZ_ok h (Or.inl rfl)
  have z1 : ∀ (B : Mm) f, okA B 12 (342 + 4 * k) → pZ B 12 f (some (342 + 4 * k)) 1 = some (sF B f (342 + 4 * k) 1) := fun B f h => pZ_ok h (Or.inr rfl)
  have hmL := hI.mL
  have b1 := hI.hl1
  have b2' := hI.bl1
  have b3 := hI.cl1
  have hon1 := hI.on1
  have hti1 := hI.ti1
  have one0 : ¬ (1 : Int32) = 0 := by decide
  obtain ⟨-, -, -, -, -, -, -, -, -, -, -, -, -, -, won, wtm, wti, wtn, wta, -⟩ := hw
  have hb : (0 ≤ (b0 + nI f) - (b0 + nI (v 3))) ↔ (v 3) ≤ f := bef_nI (by omega) (by omega)
  -- the timer
  have tail : ∀ B, RW B → (mF B 789 (342 + 4 * k)) = (mF A 789 (342 + 4 * k)) → (mF B 790 (342 + 4 * k)) = (mF A 790 (342 + 4 * k)) → (mF B 781 (342 + 4 * k)) = (mF A 781 (342 + 4 * k)) → (mF B 1034 323) = (mF A 1034 323) → ∃ A1, fX16_noted_L54 fu 323 (some (342 + 4 * k)) B = some A1 ∧ FF (fun g => g = 789 ∨ g = 790) (342 + 4 * k) B A1 ∧ (mF A1 789 (342 + 4 * k)) = nI 1 ∧ (mF A1 790 (342 + 4 * k)) = nI (w 15) := by
    intro B hRB e1 e2 e3 e4
    have hAB := rw_cnO hRB k hk
    unfold fX16_noted_L54 fX16_timerSet
    by_cases c : (v 14) = 1
    · have e5 : (mF B 789 (342 + 4 * k)) = nI 1 := by rw [e1, hI.on, c]
      have e6 : ¬ (mF B 789 (342 + 4 * k)) = 0 := by rw [e5]; decide
      refine ⟨B, ?_, FF.rf, e5, ?_⟩
      · simp only [gI_ok hAB, ob_some, e6, if_false]
      · rw [e2, wtm, if_pos c]; exact (hI.tm c).1
    · have e5 : (mF B 789 (342 + 4 * k)) = 0 := by rw [e1, hI.on, show (v 14) = 0 by omega]; rfl
      refine ⟨sF (sF B 789 (342 + 4 * k) 1) 790 (342 + 4 * k) (nI (nw + (v 12))), ?_, (FF.s _ (by omega)).tr (FF.s _ (by omega)), by simp only [mF_sF, reduceIte, Nat.reduceEqDiff, Nat.reduceAdd, Nat.reduceMul, Nat.reduceLT, Nat.reduceLeDiff, and_true, true_and, and_false, false_and, and_self, ne_eq, not_true_eq_false, not_false_eq_true, Option.some.injEq, reduceCtorEq]; rfl, by simp only [mF_sF, reduceIte, Nat.reduceEqDiff, Nat.reduceAdd, Nat.reduceMul, Nat.reduceLT, Nat.reduceLeDiff, and_true, true_and, and_false, false_and, and_self, ne_eq, not_true_eq_false, not_false_eq_true, Option.some.injEq, reduceCtorEq]; rw [wtm, if_neg c]⟩
      simp only [gI_ok hAB, ob_some, e5, if_true, rc_ok (rw_ok323 hRB), z1, hAB, pF_ok, gI_ok, ok_sF, rw_ok323 hRB, mF_sF, e4, hnw, e3, hI.ro, nI_add, reduceIte, Nat.reduceEqDiff, Nat.reduceAdd, Nat.reduceMul, Nat.reduceLT, Nat.reduceLeDiff, and_true, true_and, and_false, false_and, and_self, ne_eq, not_true_eq_false, not_false_eq_true, Option.some.injEq, reduceCtorEq]
  unfold fX16_noted fX16_before
  by_cases c : (v 3) ≤ f
  · have c' := hb.mpr c
    have cn : ¬ f < (v 3) := by omega
    rw [if_neg cn]
    by_cases ct : (v 16) = 1
    · have e1 : ¬ (mF A 785 (342 + 4 * k)) = 0 := by rw [hI.ti, ct]; decide
      obtain ⟨A1, p1, p2, p3, p4⟩ := tail A hR rfl rfl rfl rfl
      obtain ⟨t2, t5⟩ := hI.tn ct
      refine ⟨A1, ?_, p2.1, p2.2.1, p2.2.2.1, p2.2.2.2.1, fun g a h => p2.2.2.2.2 g a (fun e => h ⟨by omega, e.2⟩), ?_, fun _ => ⟨?_, ?_⟩, p3, p4⟩
      · simp only [gI_ok hA, ob_some, hI.max, c', if_true, rN0, b2_some, e1, if_false]
        exact p1
      · rw [p2.2.2.2.2 785 _ (by omega), hI.ti, ct, wti, if_neg cn]
      · rw [p2.2.2.2.2 787 _ (by omega), wtn, if_pos ct]; exact t2
      · rw [p2.2.2.2.2 788 _ (by omega), wta, if_pos ct]; exact t5
    · have e1 : (mF A 785 (342 + 4 * k)) = 0 := by rw [hI.ti, show (v 16) = 0 by omega]; rfl
      obtain ⟨A1, p1, p2, p3, p4⟩ := tail (sF (sF (sF A 785 (342 + 4 * k) 1) 787 (342 + 4 * k) (b0 + nI f)) 788 (342 + 4 * k) (nI nw)) hR (by simp only [mF_sF, reduceIte, Nat.reduceEqDiff, Nat.reduceAdd, Nat.reduceMul, Nat.reduceLT, Nat.reduceLeDiff, and_true, true_and, and_false, false_and, and_self, ne_eq, not_true_eq_false, not_false_eq_true, Option.some.injEq, reduceCtorEq]) (by simp only [mF_sF, reduceIte, Nat.reduceEqDiff, Nat.reduceAdd, Nat.reduceMul, Nat.reduceLT, Nat.reduceLeDiff, and_true, true_and, and_false, false_and, and_self, ne_eq, not_true_eq_false, not_false_eq_true, Option.some.injEq, reduceCtorEq]) (by simp only [mF_sF, reduceIte, Nat.reduceEqDiff, Nat.reduceAdd, Nat.reduceMul, Nat.reduceLT, Nat.reduceLeDiff, and_true, true_and, and_false, false_and, and_self, ne_eq, not_true_eq_false, not_false_eq_true, Option.some.injEq, reduceCtorEq]) (by simp only [mF_sF, reduceIte, Nat.reduceEqDiff, Nat.reduceAdd, Nat.reduceMul, Nat.reduceLT, Nat.reduceLeDiff, and_true, true_and, and_false, false_and, and_self, ne_eq, not_true_eq_false, not_false_eq_true, Option.some.injEq, reduceCtorEq])
      refine ⟨A1, ?_, p2.1, p2.2.1, p2.2.2.1, p2.2.2.2.1, fun g a h => ?_, ?_, fun _ => ⟨?_, ?_⟩, p3, p4⟩
      · simp only [gI_ok hA, ob_some, hI.max, c', if_true, rN0, b2_some, e1, z1, hA, pF_ok, gI_ok, ok_sF, rw_ok323 hR, mF_sF, hnw, reduceIte, Nat.reduceEqDiff, Nat.reduceAdd, Nat.reduceMul, Nat.reduceLT, Nat.reduceLeDiff, and_true, true_and, and_false, false_and, and_self, ne_eq, not_true_eq_false, not_false_eq_true, Option.some.injEq, reduceCtorEq]
        exact p1
      · rw [p2.2.2.2.2 g a (fun e => h ⟨by omega, e.2⟩), mF_sF, if_neg (fun e => h ⟨by omega, e.2⟩), mF_sF, if_neg (fun e => h ⟨by omega, e.2⟩), mF_sF, if_neg (fun e => h ⟨by omega, e.2⟩)]
      · rw [p2.2.2.2.2 785 _ (by omega), wti, if_neg cn]; simp only [mF_sF, reduceIte, Nat.reduceEqDiff, Nat.reduceAdd, Nat.reduceMul, Nat.reduceLT, Nat.reduceLeDiff, and_true, true_and, and_false, false_and, and_self, ne_eq, not_true_eq_false, not_false_eq_true, Option.some.injEq, reduceCtorEq]; rfl
      · rw [p2.2.2.2.2 787 _ (by omega), wtn, if_neg ct]; simp only [mF_sF, reduceIte, Nat.reduceEqDiff, Nat.reduceAdd, Nat.reduceMul, Nat.reduceLT, Nat.reduceLeDiff, and_true, true_and, and_false, false_and, and_self, ne_eq, not_true_eq_false, not_false_eq_true, Option.some.injEq, reduceCtorEq]
      · rw [p2.2.2.2.2 788 _ (by omega), wta, if_neg ct]; simp only [mF_sF, reduceIte, Nat.reduceEqDiff, Nat.reduceAdd, Nat.reduceMul, Nat.reduceLT, Nat.reduceLeDiff, and_true, true_and, and_false, false_and, and_self, ne_eq, not_true_eq_false, not_false_eq_true, Option.some.injEq, reduceCtorEq]
  · have c' : ¬ 0 ≤ (b0 + nI f) - (b0 + nI (v 3)) := fun e => c (hb.mp e)
    have cn : f < (v 3) := by omega
    rw [if_pos cn]
    have gA3 : gA A 101 (some 330) (3 : Int32) = some (mA A 330 3) := gA_ok (i := 3) (rw_ok330 hR) (by rw [rw_ln330 hR]; decide) (by decide)
    have pA3 : pA A 101 (some 330) (3 : Int32) (mA A 330 3 + (1 : Int32)) = some (wA A 330 (cn3 (mA A 330))) := pA_ok (i := 3) (rw_ok330 hR) (by rw [rw_ln330 hR]; decide) (by decide)
    obtain ⟨A1, p1, p2, p3, p4⟩ := tail (sF (wA A 330 (cn3 (mA A 330))) 785 (342 + 4 * k) 0) hR (by simp only [mF_sF, mF_wA, reduceIte, Nat.reduceEqDiff, Nat.reduceAdd, Nat.reduceMul, Nat.reduceLT, Nat.reduceLeDiff, and_true, true_and, and_false, false_and, and_self, ne_eq, not_true_eq_false, not_false_eq_true, Option.some.injEq, reduceCtorEq]) (by simp only [mF_sF, mF_wA, reduceIte, Nat.reduceEqDiff, Nat.reduceAdd, Nat.reduceMul, Nat.reduceLT, Nat.reduceLeDiff, and_true, true_and, and_false, false_and, and_self, ne_eq, not_true_eq_false, not_false_eq_true, Option.some.injEq, reduceCtorEq]) (by simp only [mF_sF, mF_wA, reduceIte, Nat.reduceEqDiff, Nat.reduceAdd, Nat.reduceMul, Nat.reduceLT, Nat.reduceLeDiff, and_true, true_and, and_false, false_and, and_self, ne_eq, not_true_eq_false, not_false_eq_true, Option.some.injEq, reduceCtorEq]) (by simp only [mF_sF, mF_wA, reduceIte, Nat.reduceEqDiff, Nat.reduceAdd, Nat.reduceMul, Nat.reduceLT, Nat.reduceLeDiff, and_true, true_and, and_false, false_and, and_self, ne_eq, not_true_eq_false, not_false_eq_true, Option.some.injEq, reduceCtorEq])
    refine ⟨A1, ?_, p2.1, p2.2.1, p2.2.2.1, p2.2.2.2.1, fun g a h => ?_, ?_, fun q => ?_, p3, p4⟩
    · simp only [gI_ok hA, ob_some, hI.max, c', if_false, rN1, b2_some, one0, gR_ok (rw_ok323 hR), rw_g1041_323 hR, gA3, pA3, z0, ok_wA, hA]
      exact p1
    · rw [p2.2.2.2.2 g a (fun e => h ⟨by omega, e.2⟩), mF_sF, if_neg (fun e => h ⟨by omega, e.2⟩)]; rfl
    · rw [p2.2.2.2.2 785 _ (by omega), wti, if_pos cn]; simp only [mF_sF, reduceIte, Nat.reduceEqDiff, Nat.reduceAdd, Nat.reduceMul, Nat.reduceLT, Nat.reduceLeDiff, and_true, true_and, and_false, false_and, and_self, ne_eq, not_true_eq_false, not_false_eq_true, Option.some.injEq, reduceCtorEq]; rfl
    · rw [wti, if_pos cn] at q; cases q
theorem x_noted (fu : Nat) (hW : XW M) {k c nw t im f : Nat} {b0 : Int32} {v w : Nat → Nat} (hC : CnO M c) (hP : CQ A M k c) (hmax : (mF M 70 c) = b0 + nI (v 3)) (hI : CIw A k nw t im b0 v) (hn2 : nw ≤ 2000000000) (hnw : (mF M 641 304) = nI nw) (hf : f ≤ (v 3)) (hw : ntd v w nw f) (a4 a5 : Int32) :
    ∃ M1, fX9_sendPart_L65 fu 317 (some c) (b0 + nI f) a4 a5 M = fX9_sendPart_L147 fu 317 (some c) (b0 + nI f) a4 a5 M1 ∧ mS M1 = mS M ∧ mG M1 = mG M ∧ mB M1 = mB M ∧ mA M1 = mA (if f < (v 3) then wA M 305 (cn3 (mA M 305)) else M) ∧ (∀ g a, ¬ ((g = 324 ∨ g = 328 ∨ g = 329 ∨ g = 330) ∧ a = c + 5) → mF M1 g a = mF M g a) ∧ (mF M1 328 (c + 5)) = nI (w 16) ∧ ((w 16) = 1 → (mF M1 329 (c + 5)) = b0 + nI (w 17) ∧ (mF M1 330 (c + 5)) = nI (w 18)) ∧ (mF M1 324 (c + 5)) = nI (w 15) := by
  have hC' := hC
  obtain ⟨c1, c2, c3, c4, c5, c6, c7, c8, c9, c10, c11, c12, c13, hM⟩ := hC'
  have y0 : ∀ (B : Mm) f, okA B 5 (c + 5) → pZ B 5 f (some (c + 5)) 0 = some (sF B f (c + 5) 0) := fun B f h => pZ_ok h (Or.inl rfl)
  have y1 : ∀ (B : Mm) f, okA B 5 (c + 5) → pZ B 5 f (some (c + 5)) 1 = some (sF B f (c + 5) 1) := fun B f h => pZ_ok h (Or.inr rfl)
  have hmL := hI.mL
  have b1 := hI.hl1
  have b2' := hI.bl1
  have b3 := hI.cl1
  have hon1 := hI.on1
  have hti1 := hI.ti1
  have hro1 := hI.ro1
  have one0 : ¬ (1 : Int32) = 0 := by decide
  obtain ⟨-, -, -, -, -, -, -, -, -, -, -, -, -, -, won, wtm, wti, wtn, wta, -⟩ := hw
  have hb : (0 ≤ (b0 + nI f) - (b0 + nI (v 3))) ↔ (v 3) ≤ f := bef_nI (by omega) (by omega)
  have erx : (mF M 323 (c + 5)) = nI (v 12) := hP.ro.symm.trans hI.ro
  have tail : ∀ B, CnO B c → XW B → (mF B 324 (c + 5)) = (mF M 324 (c + 5)) → (mF B 323 (c + 5)) = (mF M 323 (c + 5)) → (mF B 641 304) = (mF M 641 304) → ∃ M1, fX9_sendPart_L113 fu 317 (some c) (b0 + nI f) a4 a5 B = fX9_sendPart_L147 fu 317 (some c) (b0 + nI f) a4 a5 M1 ∧ FF (fun g => g = 324) (c + 5) B M1 ∧ (mF M1 324 (c + 5)) = nI (w 15) := by
    intro B hCB hWB e1 e2 e3
    obtain ⟨d1, d2, d3, d4, d5, d6, d7, d8, d9, d10, d11, d12, d13, hMB⟩ := hCB
    unfold fX9_sendPart_L113
    by_cases ce : (v 14) = 1
    · have tm1 := (hI.tm ce)
      have e5 : (mF B 324 (c + 5)) = nI (v 15) := by
        rw [e1]
        rcases hP.tm with ⟨q, -⟩ | ⟨-, q⟩ | ⟨q, -⟩
        · rw [hI.on, ce] at q; exact absurd q (by decide)
        · rw [← q]; exact tm1.1
        · rw [hI.on, ce] at q; exact absurd q (by decide)
      have e6 : ¬ nI (v 15) = (2147483647 : Int32) := fun e => by
        have := (nI_eq (a := (v 15)) (b := 2147483647) (by omega) (by decide)).mp e
        omega
      refine ⟨B, ?_, FF.rf, by rw [e5, wtm, if_pos ce]⟩
      simp only [gR_ok d1, d4, ob_some, gI_ok hMB, e5, e6, if_false]
    · have e5 : (mF B 324 (c + 5)) = 2147483647 ∨ (mF B 324 (c + 5)) = nI (nw + (v 12)) := by
        rw [e1]
        rcases hP.tm with ⟨-, q⟩ | ⟨q, -⟩ | ⟨-, q⟩
        · exact Or.inl q
        · rw [hI.on, show (v 14) = 0 by omega] at q; exact absurd q (by decide)
        · right
          rw [q, hnw, erx, nI_add]
      rcases e5 with e5 | e5
      rotate_left
      · have e6 : ¬ nI (nw + (v 12)) = (2147483647 : Int32) := fun e => by
          have := (nI_eq (a := nw + (v 12)) (b := 2147483647) (by omega) (by decide)).mp e
          omega
        refine ⟨B, ?_, FF.rf, by rw [e5, wtm, if_neg ce]⟩
        simp only [gR_ok d1, d4, ob_some, gI_ok hMB, e5, e6, if_false]
      refine ⟨sF B 324 (c + 5) (nI (nw + (v 12))), ?_, FF.s _ rfl, by simp only [mF_sF, reduceIte, Nat.reduceEqDiff, Nat.reduceAdd, Nat.reduceMul, Nat.reduceLT, Nat.reduceLeDiff, and_true, true_and, and_false, false_and, and_self, ne_eq, not_true_eq_false, not_false_eq_true, Option.some.injEq, reduceCtorEq]; rw [wtm, if_neg ce]⟩
      simp only [gR_ok d1, d4, ob_some, gI_ok hMB, e5, if_true, gR_ok (xw_ok317 hWB), xw_g576_317 hWB, gI_ok (xw_ok304 hWB), e3, hnw, e2, erx, nI_add, pF_ok hMB]
  unfold fX9_sendPart_L65 fX5_startTiming
  by_cases c0 : (v 3) ≤ f
  · have c' := hb.mpr c0
    have cn : ¬ f < (v 3) := by omega
    rw [if_neg cn]
    by_cases ct : (v 16) = 1
    · have e1 : ¬ (mF M 328 (c + 5)) = 0 := by rw [← hP.ti, hI.ti, ct]; decide
      obtain ⟨M1, p1, p2, p3⟩ := tail M hC hW rfl rfl rfl
      obtain ⟨t2, t5⟩ := hI.tn ct
      obtain ⟨r1, r2⟩ := hP.tn (by rw [hI.ti, ct]; decide)
      refine ⟨M1, ?_, p2.1, p2.2.1, p2.2.2.1, p2.2.2.2.1, fun g a h => p2.2.2.2.2 g a (fun e => h ⟨by omega, e.2⟩), ?_, fun _ => ⟨?_, ?_⟩, p3⟩
      · simp only [gI_ok c1, ob_some, hmax, c', if_true, gR_ok c1, c4, gR_ok (xw_ok317 hW), xw_g576_317 hW, gI_ok (xw_ok304 hW), rc_ok hM, gI_ok hM, e1, if_false]
        exact p1
      · rw [p2.2.2.2.2 328 _ (by omega), ← hP.ti, hI.ti, ct, wti, if_neg cn]
      · rw [p2.2.2.2.2 329 _ (by omega), wtn, if_pos ct, ← r1]; exact t2
      · rw [p2.2.2.2.2 330 _ (by omega), wta, if_pos ct, ← r2]; exact t5
    · have e1 : (mF M 328 (c + 5)) = 0 := by rw [← hP.ti, hI.ti, show (v 16) = 0 by omega]; rfl
      obtain ⟨M1, p1, p2, p3⟩ := tail (sF (sF (sF M 328 (c + 5) 1) 329 (c + 5) (b0 + nI f)) 330 (c + 5) (nI nw)) hC hW (by simp only [mF_sF, reduceIte, Nat.reduceEqDiff, Nat.reduceAdd, Nat.reduceMul, Nat.reduceLT, Nat.reduceLeDiff, and_true, true_and, and_false, false_and, and_self, ne_eq, not_true_eq_false, not_false_eq_true, Option.some.injEq, reduceCtorEq]) (by simp only [mF_sF, reduceIte, Nat.reduceEqDiff, Nat.reduceAdd, Nat.reduceMul, Nat.reduceLT, Nat.reduceLeDiff, and_true, true_and, and_false, false_and, and_self, ne_eq, not_true_eq_false, not_false_eq_true, Option.some.injEq, reduceCtorEq]) (by simp only [mF_sF, reduceIte, Nat.reduceEqDiff, Nat.reduceAdd, Nat.reduceMul, Nat.reduceLT, Nat.reduceLeDiff, and_true, true_and, and_false, false_and, and_self, ne_eq, not_true_eq_false, not_false_eq_true, Option.some.injEq, reduceCtorEq])
      refine ⟨M1, ?_, p2.1, p2.2.1, p2.2.2.1, p2.2.2.2.1, fun g a h => ?_, ?_, fun _ => ⟨?_, ?_⟩, p3⟩
      · simp only [gI_ok c1, ob_some, hmax, c', if_true, gR_ok c1, c4, gR_ok (xw_ok317 hW), xw_g576_317 hW, gI_ok (xw_ok304 hW), hnw, rc_ok hM, gI_ok hM, e1, y1, hM, pF_ok, ok_sF]
        exact p1
      · rw [p2.2.2.2.2 g a (fun e => h ⟨by omega, e.2⟩), mF_sF, if_neg (fun e => h ⟨by omega, e.2⟩), mF_sF, if_neg (fun e => h ⟨by omega, e.2⟩), mF_sF, if_neg (fun e => h ⟨by omega, e.2⟩)]
      · rw [p2.2.2.2.2 328 _ (by omega), wti, if_neg cn]; simp only [mF_sF, reduceIte, Nat.reduceEqDiff, Nat.reduceAdd, Nat.reduceMul, Nat.reduceLT, Nat.reduceLeDiff, and_true, true_and, and_false, false_and, and_self, ne_eq, not_true_eq_false, not_false_eq_true, Option.some.injEq, reduceCtorEq]; rfl
      · rw [p2.2.2.2.2 329 _ (by omega), wtn, if_neg ct]; simp only [mF_sF, reduceIte, Nat.reduceEqDiff, Nat.reduceAdd, Nat.reduceMul, Nat.reduceLT, Nat.reduceLeDiff, and_true, true_and, and_false, false_and, and_self, ne_eq, not_true_eq_false, not_false_eq_true, Option.some.injEq, reduceCtorEq]
      · rw [p2.2.2.2.2 330 _ (by omega), wta, if_neg ct]; simp only [mF_sF, reduceIte, Nat.reduceEqDiff, Nat.reduceAdd, Nat.reduceMul, Nat.reduceLT, Nat.reduceLeDiff, and_true, true_and, and_false, false_and, and_self, ne_eq, not_true_eq_false, not_false_eq_true, Option.some.injEq, reduceCtorEq]
  · have c' : ¬ 0 ≤ (b0 + nI f) - (b0 + nI (v 3)) := fun e => c0 (hb.mp e)
    have cn : f < (v 3) := by omega
    rw [if_pos cn]
    have gM3 : gA M 101 (some 305) (3 : Int32) = some (mA M 305 3) := gA_ok (i := 3) (xw_ok305 hW) (by rw [xw_ln305 hW]; decide) (by decide)
    have pM3 : pA M 101 (some 305) (3 : Int32) (mA M 305 3 + (1 : Int32)) = some (wA M 305 (cn3 (mA M 305))) := pA_ok (i := 3) (xw_ok305 hW) (by rw [xw_ln305 hW]; decide) (by decide)
    obtain ⟨M1, p1, p2, p3⟩ := tail (sF (wA M 305 (cn3 (mA M 305))) 328 (c + 5) 0) hC hW (by simp only [mF_sF, mF_wA, reduceIte, Nat.reduceEqDiff, Nat.reduceAdd, Nat.reduceMul, Nat.reduceLT, Nat.reduceLeDiff, and_true, true_and, and_false, false_and, and_self, ne_eq, not_true_eq_false, not_false_eq_true, Option.some.injEq, reduceCtorEq]) (by simp only [mF_sF, mF_wA, reduceIte, Nat.reduceEqDiff, Nat.reduceAdd, Nat.reduceMul, Nat.reduceLT, Nat.reduceLeDiff, and_true, true_and, and_false, false_and, and_self, ne_eq, not_true_eq_false, not_false_eq_true, Option.some.injEq, reduceCtorEq]) (by simp only [mF_sF, mF_wA, reduceIte, Nat.reduceEqDiff, Nat.reduceAdd, Nat.reduceMul, Nat.reduceLT, Nat.reduceLeDiff, and_true, true_and, and_false, false_and, and_self, ne_eq, not_true_eq_false, not_false_eq_true, Option.some.injEq, reduceCtorEq])
    refine ⟨M1, ?_, p2.1, p2.2.1, p2.2.2.1, p2.2.2.2.1, fun g a h => ?_, ?_, fun q => ?_, p3⟩
    · simp only [gI_ok c1, ob_some, hmax, c', if_false, gR_ok (xw_ok317 hW), xw_g576_317 hW, gR_ok (xw_ok304 hW), xw_g640_304 hW, gM3, pM3, gR_ok (show okA (wA M 305 (cn3 (mA M 305))) 1 c from c1), mG_wA, c4, y0, ok_wA, hM]
      exact p1
    · rw [p2.2.2.2.2 g a (fun e => h ⟨by omega, e.2⟩), mF_sF, if_neg (fun e => h ⟨by omega, e.2⟩)]; rfl
    · rw [p2.2.2.2.2 328 _ (by omega), wti, if_pos cn]; simp only [mF_sF, reduceIte, Nat.reduceEqDiff, Nat.reduceAdd, Nat.reduceMul, Nat.reduceLT, Nat.reduceLeDiff, and_true, true_and, and_false, false_and, and_self, ne_eq, not_true_eq_false, not_false_eq_true, Option.some.injEq, reduceCtorEq]; rfl
    · rw [wti, if_pos cn] at q; cases q
end Noted
