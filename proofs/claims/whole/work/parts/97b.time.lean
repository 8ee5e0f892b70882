/-! ===== part 97b: how fast a connection may send, in both ===== -/
theorem jmaxL_lN {a b : Nat} (ha : a < 2 ^ 31) (hb : b < 2 ^ 31) : jmaxL (lN a) (lN b) = lN (max a b) := by
  unfold jmaxL
  by_cases h : b < a
  · rw [if_pos ((lN_lt hb ha).mpr h), Nat.max_eq_left (by omega)]
  · rw [if_neg (fun q => h ((lN_lt hb ha).mp q)), Nat.max_eq_right (by omega)]
theorem jminL_lN {a b : Nat} (ha : a < 2 ^ 31) (hb : b < 2 ^ 31) : jminL (lN a) (lN b) = lN (min a b) := by
  unfold jminL
  by_cases h : b < a
  · rw [if_pos ((lN_lt hb ha).mpr h), Nat.min_eq_right (by omega)]
  · rw [if_neg (fun q => h ((lN_lt hb ha).mp q)), Nat.min_eq_left (by omega)]
def rtoN (sr vr : Nat) : Nat := max 1000 (min 60000 (sr + max 10 (4 * vr)))
theorem rto_m {sr vr : Nat} (h1 : sr ≤ 50000000) (h2 : vr ≤ 50000000) : Int64.toInt32 (jmaxL (1000 : Int64) (jminL (60000 : Int64) ((Int32.toInt64 (nI sr)) + (jmaxL (10 : Int64) ((4 : Int64) * (Int32.toInt64 (nI vr))))))) = nI (rtoN sr vr) := by
  rw [nI_l (by omega), nI_l (by omega), show (4 : Int64) * lN vr = lN (4 * vr) from lN_mul 4 vr, show jmaxL (10 : Int64) (lN (4 * vr)) = lN (max 10 (4 * vr)) from jmaxL_lN (a := 10) (by decide) (by omega), lN_add, show jminL (60000 : Int64) (lN (sr + max 10 (4 * vr))) = lN (min 60000 (sr + max 10 (4 * vr))) from jminL_lN (a := 60000) (by decide) (by omega), show jmaxL (1000 : Int64) (lN (min 60000 (sr + max 10 (4 * vr)))) = lN (max 1000 (min 60000 (sr + max 10 (4 * vr)))) from jmaxL_lN (a := 1000) (by decide) (by omega), lN_i]
  rfl
theorem rto_x {sr vr : Nat} (h1 : sr ≤ 50000000) (h2 : vr ≤ 50000000) : jmax (1000 : Int32) (jmin (60000 : Int32) (nI sr + (jmax (10 : Int32) ((4 : Int32) * nI vr)))) = nI (rtoN sr vr) := by
  rw [show (4 : Int32) * nI vr = nI (4 * vr) from pk_mul 4 vr, show jmax (10 : Int32) (nI (4 * vr)) = nI (max 10 (4 * vr)) from jmax_nI (a := 10) (by decide) (by omega), nI_add, show jmin (60000 : Int32) (nI (sr + max 10 (4 * vr))) = nI (min 60000 (sr + max 10 (4 * vr))) from jmin_nI (a := 60000) (by decide) (by omega), show jmax (1000 : Int32) (nI (min 60000 (sr + max 10 (4 * vr)))) = nI (max 1000 (min 60000 (sr + max 10 (4 * vr)))) from jmax_nI (a := 1000) (by decide) (by omega)]
  rfl
theorem rtoN_le (sr vr : Nat) : 1000 ≤ rtoN sr vr ∧ rtoN sr vr ≤ 60000 := by unfold rtoN; omega
/-- the distance of two numbers, as both systems take it -/
def dif (a b : Nat) : Nat := if b ≤ a then a - b else b - a
theorem dif_le {a b n : Nat} (ha : a ≤ n) (hb : b ≤ n) : dif a b ≤ n := by unfold dif; split <;> omega
theorem neg_sub_nI {a b : Nat} (h : a ≤ b) : -(nI a - nI b) = nI (b - a) := by
  rw [Int32.neg_sub]
  exact nI_sub h
theorem dif_m {a b : Nat} (ha : a < 2 ^ 30) (hb : b < 2 ^ 30) : (0 ≤ nI a - nI b ∧ nI a - nI b = nI (dif a b)) ∨ (¬ 0 ≤ nI a - nI b ∧ -(nI a - nI b) = nI (dif a b)) := by
  unfold dif
  by_cases h : b ≤ a
  · left
    rw [if_pos h, nI_sub h]
    exact ⟨nI_0le (by omega), rfl⟩
  · right
    rw [if_neg h]
    exact ⟨fun q => Int32.not_le.mpr (pk_sneg hb (by omega)) q, neg_sub_nI (by omega)⟩
theorem dif_x {a b : Nat} (ha : a < 2 ^ 30) (hb : b < 2 ^ 30) : jabs (nI a - nI b) = nI (dif a b) := by
  unfold jabs
  rcases dif_m ha hb with ⟨h1, h2⟩ | ⟨h1, h2⟩
  · rw [if_pos h1]; exact h2
  · rw [if_neg h1, Int32.zero_sub]; exact h2
def SAm (f : Nat) : Prop := 781 ≤ f ∧ f ≤ 784
def SAt (f : Nat) : Prop := (781 ≤ f ∧ f ≤ 785) ∨ f = 791
def SXt (f : Nat) : Prop := f = 323 ∨ f = 328 ∨ (331 ≤ f ∧ f ≤ 333)
section Time
variable {A M : Mm}
/-- a time is measured, in both -/
theorem sp_measure (fu : Nat) {a p r sr vr : Nat} (hA : okA A 12 a) (hM : okA M 5 p) (hr : r ≤ 40000000) (me : mF A 784 a = mF M 331 p) (sv : mF A 784 a ≠ 0 → mF A 782 a = nI sr ∧ sr ≤ 40000000 ∧ mF A 783 a = nI vr ∧ vr ≤ 40000000 ∧ mF M 332 p = nI sr ∧ mF M 333 p = nI vr) :
    ∃ A1 M1 sr' vr', fX16_measure fu (some a) (nI r) A = some A1 ∧ (if mF M 331 p = 0 then (pZ M 5 331 (some p) (1 : Int32)).bind fun M6 => (pF M6 5 332 (some p) (nI r)).bind fun M7 => (pF M7 5 333 (some p) (nI r / (2 : Int32))).bind fun M8 => fX5_endTiming_L94 fu p M8 else (gI M 5 333 (some p)).bind fun v9 => (gI M 5 332 (some p)).bind fun v10 => (pF M 5 333 (some p) ((((3 : Int32) * v9) + (jabs (v10 - nI r))) / (4 : Int32))).bind fun M11 => (gI M11 5 332 (some p)).bind fun v12 => (pF M11 5 332 (some p) ((((7 : Int32) * v12) + nI r) / (8 : Int32))).bind fun M13 => fX5_endTiming_L94 fu p M13) = some M1 ∧ FF SAm a A A1 ∧ FF SXt p M M1 ∧ mF A1 785 a = mF A 785 a ∧ mF M1 328 p = mF M 328 p ∧ mF A1 784 a ≠ 0 ∧ mF A1 784 a = (if mF A 784 a = 0 then 1 else mF A 784 a) ∧ mF M1 331 p = (if mF M 331 p = 0 then 1 else mF M 331 p) ∧ mF A1 782 a = nI sr' ∧ mF M1 332 p = nI sr' ∧ sr' ≤ 40000000 ∧ mF A1 783 a = nI vr' ∧ mF M1 333 p = nI vr' ∧ vr' ≤ 40000000 ∧ mF A1 781 a = nI (rtoN sr' vr') ∧ mF M1 323 p = nI (rtoN sr' vr') := by
  have z1 : ∀ (B : Mm) f, okA B 12 a → pZ B 12 f (some a) 1 = some (sF B f a 1) := fun B f h => pZ_ok h (Or.inr rfl)
  have y1 : ∀ (B : Mm) f, okA B 5 p → pZ B 5 f (some p) 1 = some (sF B f p 1) := fun B f h => pZ_ok h (Or.inr rfl)
  have one0 : ¬ (1 : Int32) = 0 := by decide
  by_cases c : mF A 784 a = 0
  · have c' : mF M 331 p = 0 := me.symm.trans c
    have e2 : nI r / (2 : Int32) = nI (r / 2) := pk_div (d := 2) (by omega) (by decide) (by decide)
    refine ⟨sF (sF (sF (sF A 784 a 1) 782 a (nI r)) 783 a (nI (r / 2))) 781 a (nI (rtoN r (r / 2))), sF (sF (sF (sF M 331 p 1) 332 p (nI r)) 333 p (nI (r / 2))) 323 p (nI (rtoN r (r / 2))), r, r / 2, ?_, ?_, (((FF.s _ (by unfold SAm; omega)).tr (FF.s _ (by unfold SAm; omega))).tr (FF.s _ (by unfold SAm; omega))).tr (FF.s _ (by unfold SAm; omega)), (((FF.s _ (by unfold SXt; omega)).tr (FF.s _ (by unfold SXt; omega))).tr (FF.s _ (by unfold SXt; omega))).tr (FF.s _ (by unfold SXt; omega)), ?_⟩
    · unfold fX16_measure fX16_measure_L73
      simp only [gI_ok, hA, ob_some, c, if_true, z1, pF_ok, ok_sF, mF_sF, e2, rto_m (show r ≤ 50000000 by omega) (show r / 2 ≤ 50000000 by omega), reduceIte, Nat.reduceEqDiff, Nat.reduceAdd, Nat.reduceMul, Nat.reduceLT, Nat.reduceLeDiff, and_true, true_and, and_false, false_and, and_self, ne_eq, not_true_eq_false, not_false_eq_true, Option.some.injEq, reduceCtorEq]
    · unfold fX5_endTiming_L94
      simp only [c', gI_ok, hM, ob_some, if_true, y1, pF_ok, ok_sF, mF_sF, e2, rto_x (show r ≤ 50000000 by omega) (show r / 2 ≤ 50000000 by omega), reduceIte, Nat.reduceEqDiff, Nat.reduceAdd, Nat.reduceMul, Nat.reduceLT, Nat.reduceLeDiff, and_true, true_and, and_false, false_and, and_self, ne_eq, not_true_eq_false, not_false_eq_true, Option.some.injEq, reduceCtorEq]
    · simp only [mF_sF, c, c', if_true, reduceIte, Nat.reduceEqDiff, Nat.reduceAdd, Nat.reduceMul, Nat.reduceLT, Nat.reduceLeDiff, and_true, true_and, and_false, false_and, and_self, ne_eq, not_true_eq_false, not_false_eq_true, Option.some.injEq, reduceCtorEq]
      exact ⟨one0, hr, by omega⟩
  · have c' : ¬ mF M 331 p = 0 := fun e => c (me.trans e)
    obtain ⟨s1, s2, s3, s4, s5, s6⟩ := sv c
    have hd := dif_le s2 hr
    have e3 : (3 : Int32) * nI vr + nI (dif sr r) = nI (3 * vr + dif sr r) := by rw [show (3 : Int32) * nI vr = nI (3 * vr) from pk_mul 3 vr, nI_add]
    have e4 : nI (3 * vr + dif sr r) / (4 : Int32) = nI ((3 * vr + dif sr r) / 4) := pk_div (d := 4) (by omega) (by decide) (by decide)
    have e7 : (7 : Int32) * nI sr + nI r = nI (7 * sr + r) := by rw [show (7 : Int32) * nI sr = nI (7 * sr) from pk_mul 7 sr, nI_add]
    have e8 : nI (7 * sr + r) / (8 : Int32) = nI ((7 * sr + r) / 8) := pk_div (d := 8) (by omega) (by decide) (by decide)
    have rm := rto_m (sr := (7 * sr + r) / 8) (vr := (3 * vr + dif sr r) / 4) (by omega) (by omega)
    have rx := rto_x (sr := (7 * sr + r) / 8) (vr := (3 * vr + dif sr r) / 4) (by omega) (by omega)
    refine ⟨sF (sF (sF A 783 a (nI ((3 * vr + dif sr r) / 4))) 782 a (nI ((7 * sr + r) / 8))) 781 a (nI (rtoN ((7 * sr + r) / 8) ((3 * vr + dif sr r) / 4))), sF (sF (sF M 333 p (nI ((3 * vr + dif sr r) / 4))) 332 p (nI ((7 * sr + r) / 8))) 323 p (nI (rtoN ((7 * sr + r) / 8) ((3 * vr + dif sr r) / 4))), (7 * sr + r) / 8, (3 * vr + dif sr r) / 4, ?_, ?_, ((FF.s _ (by unfold SAm; omega)).tr (FF.s _ (by unfold SAm; omega))).tr (FF.s _ (by unfold SAm; omega)), ((FF.s _ (by unfold SXt; omega)).tr (FF.s _ (by unfold SXt; omega))).tr (FF.s _ (by unfold SXt; omega)), ?_⟩
    · unfold fX16_measure fX16_measure_L31 fX16_measure_L73
      rcases dif_m (a := sr) (b := r) (by omega) (by omega) with ⟨h1, h2⟩ | ⟨h1, h2⟩
      · simp only [gI_ok, hA, ob_some, c, if_false, s1, s3, h2, show (0 : Int32) ≤ nI (dif sr r) from nI_0le (by omega), if_true, pF_ok, ok_sF, mF_sF, e3, e4, e7, e8, rm, reduceIte, Nat.reduceEqDiff, Nat.reduceAdd, Nat.reduceMul, Nat.reduceLT, Nat.reduceLeDiff, and_true, true_and, and_false, false_and, and_self, ne_eq, not_true_eq_false, not_false_eq_true, Option.some.injEq, reduceCtorEq]
      · simp only [gI_ok, hA, ob_some, c, if_false, s1, s3, h1, h2, pF_ok, ok_sF, mF_sF, e3, e4, e7, e8, rm, reduceIte, Nat.reduceEqDiff, Nat.reduceAdd, Nat.reduceMul, Nat.reduceLT, Nat.reduceLeDiff, and_true, true_and, and_false, false_and, and_self, ne_eq, not_true_eq_false, not_false_eq_true, Option.some.injEq, reduceCtorEq]
    · unfold fX5_endTiming_L94
      simp only [c', gI_ok, hM, ob_some, if_false, s5, s6, dif_x (show sr < 2 ^ 30 by omega) (show r < 2 ^ 30 by omega), pF_ok, ok_sF, mF_sF, e3, e4, e7, e8, rx, reduceIte, Nat.reduceEqDiff, Nat.reduceAdd, Nat.reduceMul, Nat.reduceLT, Nat.reduceLeDiff, and_true, true_and, and_false, false_and, and_self, ne_eq, not_true_eq_false, not_false_eq_true, Option.some.injEq, reduceCtorEq]
    · simp only [mF_sF, c, c', if_false, reduceIte, Nat.reduceEqDiff, Nat.reduceAdd, Nat.reduceMul, Nat.reduceLT, Nat.reduceLeDiff, and_true, true_and, and_false, false_and, and_self, ne_eq, not_true_eq_false, not_false_eq_true, Option.some.injEq, reduceCtorEq]
      exact ⟨by omega, by omega⟩
/-- what the timing looks at -/
def CT (A : Mm) (k nw t : Nat) (v : Nat → Nat) : Prop := ((mF A 785 (342 + 4 * k)) = nI (v 16)) ∧ ((v 16) ≤ 1) ∧ ((v 16) = 1 → (mF A 788 (342 + 4 * k)) = nI (v 18) ∧ (v 18) ≤ nw ∧ nw ≤ (v 18) + 60000 * (t + 1)) ∧ ((mF A 784 (342 + 4 * k)) = nI (v 19)) ∧ ((v 19) ≤ 1) ∧ ((v 19) = 1 → (mF A 782 (342 + 4 * k)) = nI (v 20) ∧ (v 20) ≤ 40000000 ∧ (mF A 783 (342 + 4 * k)) = nI (v 21) ∧ (v 21) ≤ 40000000) ∧ ((mF A 781 (342 + 4 * k)) = nI (v 12)) ∧ (1000 ≤ (v 12) ∧ (v 12) ≤ 60000) ∧ True
theorem CT.ti {A : Mm} {k nw t : Nat} {v : Nat → Nat} (h : CT A k nw t v) : (mF A 785 (342 + 4 * k)) = nI (v 16) := h.1
theorem CT.ti1 {A : Mm} {k nw t : Nat} {v : Nat → Nat} (h : CT A k nw t v) : (v 16) ≤ 1 := h.2.1
theorem CT.tn {A : Mm} {k nw t : Nat} {v : Nat → Nat} (h : CT A k nw t v) : (v 16) = 1 → (mF A 788 (342 + 4 * k)) = nI (v 18) ∧ (v 18) ≤ nw ∧ nw ≤ (v 18) + 60000 * (t + 1) := h.2.2.1
theorem CT.me {A : Mm} {k nw t : Nat} {v : Nat → Nat} (h : CT A k nw t v) : (mF A 784 (342 + 4 * k)) = nI (v 19) := h.2.2.2.1
theorem CT.me1 {A : Mm} {k nw t : Nat} {v : Nat → Nat} (h : CT A k nw t v) : (v 19) ≤ 1 := h.2.2.2.2.1
theorem CT.sv {A : Mm} {k nw t : Nat} {v : Nat → Nat} (h : CT A k nw t v) : (v 19) = 1 → (mF A 782 (342 + 4 * k)) = nI (v 20) ∧ (v 20) ≤ 40000000 ∧ (mF A 783 (342 + 4 * k)) = nI (v 21) ∧ (v 21) ≤ 40000000 := h.2.2.2.2.2.1
theorem CT.ro {A : Mm} {k nw t : Nat} {v : Nat → Nat} (h : CT A k nw t v) : (mF A 781 (342 + 4 * k)) = nI (v 12) := h.2.2.2.2.2.2.1
theorem CT.ro1 {A : Mm} {k nw t : Nat} {v : Nat → Nat} (h : CT A k nw t v) : 1000 ≤ (v 12) ∧ (v 12) ≤ 60000 := h.2.2.2.2.2.2.2.1
theorem CT.mk {A : Mm} {k nw t : Nat} {v : Nat → Nat} (ti_ : (mF A 785 (342 + 4 * k)) = nI (v 16)) (ti1_ : (v 16) ≤ 1) (tn_ : (v 16) = 1 → (mF A 788 (342 + 4 * k)) = nI (v 18) ∧ (v 18) ≤ nw ∧ nw ≤ (v 18) + 60000 * (t + 1)) (me_ : (mF A 784 (342 + 4 * k)) = nI (v 19)) (me1_ : (v 19) ≤ 1) (sv_ : (v 19) = 1 → (mF A 782 (342 + 4 * k)) = nI (v 20) ∧ (v 20) ≤ 40000000 ∧ (mF A 783 (342 + 4 * k)) = nI (v 21) ∧ (v 21) ≤ 40000000) (ro_ : (mF A 781 (342 + 4 * k)) = nI (v 12)) (ro1_ : 1000 ≤ (v 12) ∧ (v 12) ≤ 60000) : CT A k nw t v := ⟨ti_, ti1_, tn_, me_, me1_, sv_, ro_, ro1_, trivial⟩
theorem CT_of {A' : Mm} {k nw t im : Nat} {b0 : Int32} {v : Nat → Nat} (hI : CI A k nw t im b0 v) (h : ∀ f, 781 ≤ f → f ≤ 791 → mF A' f (342 + 4 * k) = mF A f (342 + 4 * k)) : CT A' k nw t v := by
  refine CT.mk ((h _ (by decide) (by decide)).trans hI.ti) hI.ti1 (fun q => ?_) ((h _ (by decide) (by decide)).trans hI.me) hI.me1 (fun q => ?_) ((h _ (by decide) (by decide)).trans hI.ro) hI.ro1
  · obtain ⟨t1, t2, t3, t4, t5, t6, t7⟩ := hI.tn q
    obtain ⟨-, m2, -⟩ := hI.tm t1
    exact ⟨(h _ (by decide) (by decide)).trans t5, t6, by omega⟩
  · obtain ⟨s1, s2, s3, s4⟩ := hI.sv q
    exact ⟨(h _ (by decide) (by decide)).trans s1, s2, (h _ (by decide) (by decide)).trans s3, s4⟩
/-- a new acknowledgement ends the timing, in both -/
theorem sp_timing (fu : Nat) (hR : RW A) {k c nw t : Nat} {v : Nat → Nat} (hk : k < 16) (hC : CnO M c) (hP : CP A M k c) (hI : CT A k nw t v) (ht : t ≤ 600) (hnw : (mF A 1034 323) = nI nw) (hn2 : nw ≤ 2000000000) (d : Int32) :
    ∃ A1 M1 ti me sr vr ro, fX16_fresh_L67 fu 323 (some (342 + 4 * k)) d A = fX16_fresh_L111 fu 323 (some (342 + 4 * k)) d A1 ∧ fX5_endTiming fu (c + 5) (mF A 1059 323) (nI nw) M = some M1 ∧ FF SAt (342 + 4 * k) A A1 ∧ FF SXt (c + 5) M M1 ∧ (mF A1 791 (342 + 4 * k)) = 0 ∧ (mF A1 785 (342 + 4 * k)) = nI ti ∧ (mF M1 328 (c + 5)) = nI ti ∧ ti ≤ 1 ∧ (ti = 1 → (v 16) = 1 ∧ ¬ 0 < (mF A 1059 323) - (mF A 787 (342 + 4 * k))) ∧ (mF A1 784 (342 + 4 * k)) = nI me ∧ (mF M1 331 (c + 5)) = nI me ∧ me ≤ 1 ∧ (me = 1 → (mF A1 782 (342 + 4 * k)) = nI sr ∧ (mF M1 332 (c + 5)) = nI sr ∧ sr ≤ 40000000 ∧ (mF A1 783 (342 + 4 * k)) = nI vr ∧ (mF M1 333 (c + 5)) = nI vr ∧ vr ≤ 40000000) ∧ (mF A1 781 (342 + 4 * k)) = nI ro ∧ (mF M1 323 (c + 5)) = nI ro ∧ 1000 ≤ ro ∧ ro ≤ 60000 := by
  have hA := rw_cnO hR k hk
  obtain ⟨c1, c2, c3, c4, c5, c6, c7, c8, c9, c10, c11, c12, c13, hM⟩ := hC
  have z0 : ∀ (B : Mm) f, okA B 12 (342 + 4 * k) → pZ B 12 f (some (342 + 4 * k)) 0 = some (sF B f (342 + 4 * k) 0) := fun B f h => pZ_ok h (Or.inl rfl)
  have y0 : ∀ (B : Mm) f, okA B 5 (c + 5) → pZ B 5 f (some (c + 5)) 0 = some (sF B f (c + 5) 0) := fun B f h => pZ_ok h (Or.inl rfl)
  have one0 : ¬ (1 : Int32) = 0 := by decide
  have f1 : FF SAt (342 + 4 * k) A (sF A 791 (342 + 4 * k) 0) := FF.s _ (by unfold SAt; omega)
  have me1 := hI.me1
  have mev : ∀ x : Nat, (x = 1 → (v 19) = 1) → (x = 1 → (mF A 782 (342 + 4 * k)) = nI (v 20) ∧ (mF M 332 (c + 5)) = nI (v 20) ∧ (v 20) ≤ 40000000 ∧ (mF A 783 (342 + 4 * k)) = nI (v 21) ∧ (mF M 333 (c + 5)) = nI (v 21) ∧ (v 21) ≤ 40000000) := fun x hx h => by
    have hm := hx h
    obtain ⟨s1, s2, s3, s4⟩ := hI.sv hm
    have hne : (mF A 784 (342 + 4 * k)) ≠ 0 := by rw [hI.me, hm]; decide
    obtain ⟨q1, q2⟩ := hP.sv hne
    exact ⟨s1, q1.symm.trans s1, s2, s3, q2.symm.trans s3, s4⟩
  -- nothing is timed, or what is timed is not acknowledged
  have keep : ∀ ti : Nat, (mF A 785 (342 + 4 * k)) = nI ti → ti ≤ 1 → (ti = 1 → (v 16) = 1 ∧ ¬ 0 < (mF A 1059 323) - (mF A 787 (342 + 4 * k))) → fX16_fresh_L67 fu 323 (some (342 + 4 * k)) d A = fX16_fresh_L111 fu 323 (some (342 + 4 * k)) d (sF A 791 (342 + 4 * k) 0) → fX5_endTiming fu (c + 5) (mF A 1059 323) (nI nw) M = some M → _ := fun ti e1 e2 e3 e4 e5 => (⟨sF A 791 (342 + 4 * k) 0, M, ti, (v 19), (v 20), (v 21), (v 12), e4, e5, f1, FF.rf, by simp only [mF_sF, reduceIte, Nat.reduceEqDiff, Nat.reduceAdd, Nat.reduceMul, Nat.reduceLT, Nat.reduceLeDiff, and_true, true_and, and_false, false_and, and_self, ne_eq, not_true_eq_false, not_false_eq_true, Option.some.injEq, reduceCtorEq], by simp only [mF_sF, reduceIte, Nat.reduceEqDiff, Nat.reduceAdd, Nat.reduceMul, Nat.reduceLT, Nat.reduceLeDiff, and_true, true_and, and_false, false_and, and_self, ne_eq, not_true_eq_false, not_false_eq_true, Option.some.injEq, reduceCtorEq]; exact e1, hP.ti.symm.trans e1, e2, e3, by simp only [mF_sF, reduceIte, Nat.reduceEqDiff, Nat.reduceAdd, Nat.reduceMul, Nat.reduceLT, Nat.reduceLeDiff, and_true, true_and, and_false, false_and, and_self, ne_eq, not_true_eq_false, not_false_eq_true, Option.some.injEq, reduceCtorEq]; exact hI.me, hP.me.symm.trans hI.me, me1, fun h => by simp only [mF_sF, reduceIte, Nat.reduceEqDiff, Nat.reduceAdd, Nat.reduceMul, Nat.reduceLT, Nat.reduceLeDiff, and_true, true_and, and_false, false_and, and_self, ne_eq, not_true_eq_false, not_false_eq_true, Option.some.injEq, reduceCtorEq]; exact mev (v 19) (fun q => q) h, by simp only [mF_sF, reduceIte, Nat.reduceEqDiff, Nat.reduceAdd, Nat.reduceMul, Nat.reduceLT, Nat.reduceLeDiff, and_true, true_and, and_false, false_and, and_self, ne_eq, not_true_eq_false, not_false_eq_true, Option.some.injEq, reduceCtorEq]; exact hI.ro, hP.ro.symm.trans hI.ro, hI.ro1.1, hI.ro1.2⟩ : ∃ A1 M1 ti me sr vr ro, fX16_fresh_L67 fu 323 (some (342 + 4 * k)) d A = fX16_fresh_L111 fu 323 (some (342 + 4 * k)) d A1 ∧ fX5_endTiming fu (c + 5) (mF A 1059 323) (nI nw) M = some M1 ∧ FF SAt (342 + 4 * k) A A1 ∧ FF SXt (c + 5) M M1 ∧ (mF A1 791 (342 + 4 * k)) = 0 ∧ (mF A1 785 (342 + 4 * k)) = nI ti ∧ (mF M1 328 (c + 5)) = nI ti ∧ ti ≤ 1 ∧ (ti = 1 → (v 16) = 1 ∧ ¬ 0 < (mF A 1059 323) - (mF A 787 (342 + 4 * k))) ∧ (mF A1 784 (342 + 4 * k)) = nI me ∧ (mF M1 331 (c + 5)) = nI me ∧ me ≤ 1 ∧ (me = 1 → (mF A1 782 (342 + 4 * k)) = nI sr ∧ (mF M1 332 (c + 5)) = nI sr ∧ sr ≤ 40000000 ∧ (mF A1 783 (342 + 4 * k)) = nI vr ∧ (mF M1 333 (c + 5)) = nI vr ∧ vr ≤ 40000000) ∧ (mF A1 781 (342 + 4 * k)) = nI ro ∧ (mF M1 323 (c + 5)) = nI ro ∧ 1000 ≤ ro ∧ ro ≤ 60000)
  have hti := hI.ti1
  by_cases ct : (v 16) = 0
  · have e0 : (mF A 785 (342 + 4 * k)) = nI 0 := by rw [hI.ti, ct]
    have e0' : (mF A 785 (342 + 4 * k)) = 0 := e0
    have e0x : (mF M 328 (c + 5)) = 0 := hP.ti.symm.trans e0'
    refine keep 0 e0 (by decide) (fun q => absurd q (by decide)) ?_ ?_
    · unfold fX16_fresh_L67
      simp only [pF_ok, gI_ok, hA, ok_sF, ob_some, mF_sF, e0', if_true, reduceIte, Nat.reduceEqDiff, Nat.reduceAdd, Nat.reduceMul, Nat.reduceLT, Nat.reduceLeDiff, and_true, true_and, and_false, false_and, and_self, ne_eq, not_true_eq_false, not_false_eq_true, Option.some.injEq, reduceCtorEq]
    · unfold fX5_endTiming
      simp only [gI_ok, hM, ob_some, e0x, if_true]
  · have ct1 : (v 16) = 1 := by omega
    have e1 : (mF A 785 (342 + 4 * k)) = nI 1 := by rw [hI.ti, ct1]
    have e1' : (mF A 785 (342 + 4 * k)) = 1 := e1
    have e1x : (mF M 328 (c + 5)) = 1 := hP.ti.symm.trans e1'
    obtain ⟨t5, t6, t7⟩ := hI.tn ct1
    obtain ⟨p1, p2⟩ := hP.tn (by rw [e1']; exact one0)
    by_cases ca : 0 < (mF A 1059 323) - (mF A 787 (342 + 4 * k))
    · -- it is acknowledged
      have ca' : ¬ (mF A 1059 323) - (mF A 787 (342 + 4 * k)) ≤ 0 := Int32.not_le.mpr ca
      have er : nI nw - (mF A 788 (342 + 4 * k)) = nI (nw - (v 18)) := by rw [t5]; exact nI_sub t6
      have erx : nI nw - (mF M 330 (c + 5)) = nI (nw - (v 18)) := by rw [← p2]; exact er
      have hr : nw - (v 18) ≤ 40000000 := by omega
      obtain ⟨A1, M1, sr, vr, w1, w2, w3, w4, w5, w6, w7, w8, w9, w10, w11, w12, w13, w14, w15, w16, w17⟩ := sp_measure (A := sF (sF A 791 (342 + 4 * k) 0) 785 (342 + 4 * k) 0) (M := sF M 328 (c + 5) 0) fu (a := 342 + 4 * k) (p := c + 5) (r := nw - (v 18)) (sr := (v 20)) (vr := (v 21)) hA hM hr (by simp only [mF_sF, reduceIte, Nat.reduceEqDiff, Nat.reduceAdd, Nat.reduceMul, Nat.reduceLT, Nat.reduceLeDiff, and_true, true_and, and_false, false_and, and_self, ne_eq, not_true_eq_false, not_false_eq_true, Option.some.injEq, reduceCtorEq]; exact hP.me) (fun h => by
        simp only [mF_sF, reduceIte, Nat.reduceEqDiff, Nat.reduceAdd, Nat.reduceMul, Nat.reduceLT, Nat.reduceLeDiff, and_true, true_and, and_false, false_and, and_self, ne_eq, not_true_eq_false, not_false_eq_true, Option.some.injEq, reduceCtorEq] at h ⊢
        have hm : (v 19) = 1 := by
          have h2 : (mF A 784 (342 + 4 * k)) ≠ 0 := h
          rw [hI.me] at h2
          have : (v 19) ≠ 0 := fun e => h2 (by rw [e]; rfl)
          omega
        obtain ⟨q1, q2, q3, q4, q5, q6⟩ := mev 1 (fun _ => hm) rfl
        exact ⟨q1, q3, q4, q6, q2, q5⟩)
      have hme : (if (mF A 784 (342 + 4 * k)) = 0 then (1 : Int32) else (mF A 784 (342 + 4 * k))) = nI 1 := by
        rw [hI.me]
        by_cases q : (v 19) = 0
        · rw [q]; rfl
        · have q1 : (v 19) = 1 := by omega
          rw [q1]; rfl
      refine ⟨A1, M1, 0, 1, sr, vr, rtoN sr vr, ?_, ?_, (f1.tr (FF.s _ (by unfold SAt; omega))).tr (w3.mono (fun f h => by unfold SAm at h; unfold SAt; omega)), (FF.s _ (by unfold SXt; omega)).tr w4, ?_, ?_, ?_, by decide, fun q => absurd q (by decide), ?_, ?_, by decide, fun _ => ⟨w10, w11, w12, w13, w14, w15⟩, w16, w17, rtoN_le _ _⟩
      · unfold fX16_fresh_L67 fX16_isBehind
        simp only [pF_ok, gI_ok, hA, rw_ok323 hR, ok_sF, ob_some, mF_sF, e1', one0, if_false, ca', rN1, b2_some, z0, hnw, er, w1, reduceIte, Nat.reduceEqDiff, Nat.reduceAdd, Nat.reduceMul, Nat.reduceLT, Nat.reduceLeDiff, and_true, true_and, and_false, false_and, and_self, ne_eq, not_true_eq_false, not_false_eq_true, Option.some.injEq, reduceCtorEq]
      · unfold fX5_endTiming
        rw [p1] at ca
        simp only [gI_ok, hM, ob_some, e1x, one0, if_false, ca, if_true, y0, ok_sF, mF_sF, erx, reduceIte, Nat.reduceEqDiff, Nat.reduceAdd, Nat.reduceMul, Nat.reduceLT, Nat.reduceLeDiff, and_true, true_and, and_false, false_and, and_self, ne_eq, not_true_eq_false, not_false_eq_true, Option.some.injEq, reduceCtorEq]
        simp only [mF_sF, gI_ok, ok_sF, hM, ob_some, reduceIte, Nat.reduceEqDiff, Nat.reduceAdd, Nat.reduceMul, Nat.reduceLT, Nat.reduceLeDiff, and_true, true_and, and_false, false_and, and_self, ne_eq, not_true_eq_false, not_false_eq_true, Option.some.injEq, reduceCtorEq] at w2
        exact w2
      · rw [w3.2.2.2.2 791 (342 + 4 * k) (fun q => by have := q.1; unfold SAm at this; omega)]
        simp only [mF_sF, reduceIte, Nat.reduceEqDiff, Nat.reduceAdd, Nat.reduceMul, Nat.reduceLT, Nat.reduceLeDiff, and_true, true_and, and_false, false_and, and_self, ne_eq, not_true_eq_false, not_false_eq_true, Option.some.injEq, reduceCtorEq]
      · rw [w5]; simp only [mF_sF, reduceIte, Nat.reduceEqDiff, Nat.reduceAdd, Nat.reduceMul, Nat.reduceLT, Nat.reduceLeDiff, and_true, true_and, and_false, false_and, and_self, ne_eq, not_true_eq_false, not_false_eq_true, Option.some.injEq, reduceCtorEq]; rfl
      · rw [w6]; simp only [mF_sF, reduceIte, Nat.reduceEqDiff, Nat.reduceAdd, Nat.reduceMul, Nat.reduceLT, Nat.reduceLeDiff, and_true, true_and, and_false, false_and, and_self, ne_eq, not_true_eq_false, not_false_eq_true, Option.some.injEq, reduceCtorEq]; rfl
      · rw [w8]; simp only [mF_sF, reduceIte, Nat.reduceEqDiff, Nat.reduceAdd, Nat.reduceMul, Nat.reduceLT, Nat.reduceLeDiff, and_true, true_and, and_false, false_and, and_self, ne_eq, not_true_eq_false, not_false_eq_true, Option.some.injEq, reduceCtorEq]; exact hme
      · rw [w9]; simp only [mF_sF, reduceIte, Nat.reduceEqDiff, Nat.reduceAdd, Nat.reduceMul, Nat.reduceLT, Nat.reduceLeDiff, and_true, true_and, and_false, false_and, and_self, ne_eq, not_true_eq_false, not_false_eq_true, Option.some.injEq, reduceCtorEq]; rw [← hP.me]; exact hme
    · have ca' : (mF A 1059 323) - (mF A 787 (342 + 4 * k)) ≤ 0 := Int32.not_lt.mp ca
      refine keep 1 e1 (by decide) (fun _ => ⟨ct1, ca⟩) ?_ ?_
      · unfold fX16_fresh_L67 fX16_isBehind
        simp only [pF_ok, gI_ok, hA, rw_ok323 hR, ok_sF, ob_some, mF_sF, e1', one0, if_false, ca', if_true, rN0, b2_some, reduceIte, Nat.reduceEqDiff, Nat.reduceAdd, Nat.reduceMul, Nat.reduceLT, Nat.reduceLeDiff, and_true, true_and, and_false, false_and, and_self, ne_eq, not_true_eq_false, not_false_eq_true, Option.some.injEq, reduceCtorEq]
      · unfold fX5_endTiming
        rw [p1] at ca
        simp only [gI_ok, hM, ob_some, e1x, one0, if_false, ca]
end Time
