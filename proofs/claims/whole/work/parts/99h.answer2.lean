/-! ===== part 99h: a request is answered, in both: all of it ===== -/
section Answer2
variable {A M A' M' : Mm}
theorem m_forget (hR : RW A) : ∃ A', FF (fun f => 1067 ≤ f ∧ f ≤ 1079) 323 A A' ∧ (∀ f, 1067 ≤ f → f ≤ 1079 → mF A' f 323 = 0) ∧ ∀ {β : Type} (K : Mm → Option β), ((pF A 16 1067 (some 323) (0 : Int32)).bind fun M3 => (pZ M3 16 1068 (some 323) (0 : Int32)).bind fun M4 => (pZ M4 16 1069 (some 323) (0 : Int32)).bind fun M5 => (pZ M5 16 1070 (some 323) (0 : Int32)).bind fun M6 => (pZ M6 16 1071 (some 323) (0 : Int32)).bind fun M7 => (pF M7 16 1072 (some 323) (0 : Int32)).bind fun M8 => (pF M8 16 1073 (some 323) (0 : Int32)).bind fun M9 => (pF M9 16 1074 (some 323) (0 : Int32)).bind fun M10 => (pF M10 16 1075 (some 323) (0 : Int32)).bind fun M11 => (pZ M11 16 1076 (some 323) (0 : Int32)).bind fun M12 => (pZ M12 16 1077 (some 323) (0 : Int32)).bind fun M13 => (pZ M13 16 1078 (some 323) (0 : Int32)).bind fun M14 => (pZ M14 16 1079 (some 323) (0 : Int32)).bind fun M15 => K M15) = K A' := by
  have o := rw_ok323 hR
  refine ⟨sF (sF (sF (sF (sF (sF (sF (sF (sF (sF (sF (sF (sF A 1067 323 0) 1068 323 0) 1069 323 0) 1070 323 0) 1071 323 0) 1072 323 0) 1073 323 0) 1074 323 0) 1075 323 0) 1076 323 0) 1077 323 0) 1078 323 0) 1079 323 0, ?_, ?_, ?_⟩
  · exact (((((((((((((FF.s _ (by omega)).tr (FF.s _ (by omega))).tr (FF.s _ (by omega))).tr (FF.s _ (by omega))).tr (FF.s _ (by omega))).tr (FF.s _ (by omega))).tr (FF.s _ (by omega))).tr (FF.s _ (by omega))).tr (FF.s _ (by omega))).tr (FF.s _ (by omega))).tr (FF.s _ (by omega))).tr (FF.s _ (by omega))).tr (FF.s _ (by omega)))
  · intro f h1 h2
    have hh : f = 1067 ∨ f = 1068 ∨ f = 1069 ∨ f = 1070 ∨ f = 1071 ∨ f = 1072 ∨ f = 1073 ∨ f = 1074 ∨ f = 1075 ∨ f = 1076 ∨ f = 1077 ∨ f = 1078 ∨ f = 1079 := by omega
    rcases hh with rfl | rfl | rfl | rfl | rfl | rfl | rfl | rfl | rfl | rfl | rfl | rfl | rfl <;> simp only [mF_sF, reduceIte, Nat.reduceEqDiff, Nat.reduceAdd, Nat.reduceMul, Nat.reduceLT, Nat.reduceLeDiff, and_true, true_and, and_false, false_and, and_self, ne_eq, not_true_eq_false, not_false_eq_true, Option.some.injEq, reduceCtorEq]
  · intro β K
    have z : ∀ (X : Mm) (f : Nat), okA X 16 323 → pZ X 16 f (some 323) (0 : Int32) = some (sF X f 323 0) := fun X f hX => pZ_ok hX (Or.inl rfl)
    simp only [pF_ok, z, ok_sF, o, ob_some]
theorem x_forget (fu : Nat) (hW : XW M) : ∃ M', fX7_forget fu 319 M = some M' ∧ FF (fun f => 453 ≤ f ∧ f ≤ 466) 319 M M' ∧ (∀ f, f = 453 ∨ f = 454 ∨ (457 ≤ f ∧ f ≤ 461) ∨ f = 464 ∨ f = 465 → mF M' f 319 = 0) := by
  have o := xw_ok319 hW
  refine ⟨sF (sF (sF (sF (sF (sF (sF (sF (sF (sF M 453 319 0) 454 319 0) 457 319 0) 458 319 0) 459 319 0) 460 319 0) 461 319 0) 464 319 0) 465 319 0) 466 319 (-1), ?_, ?_, ?_⟩
  · have z : ∀ (X : Mm) (f : Nat), okA X 7 319 → pZ X 7 f (some 319) (0 : Int32) = some (sF X f 319 0) := fun X f hX => pZ_ok hX (Or.inl rfl)
    unfold fX7_forget
    simp only [pF_ok, z, ok_sF, o, ob_some]
  · exact ((((((((((FF.s _ (by omega)).tr (FF.s _ (by omega))).tr (FF.s _ (by omega))).tr (FF.s _ (by omega))).tr (FF.s _ (by omega))).tr (FF.s _ (by omega))).tr (FF.s _ (by omega))).tr (FF.s _ (by omega))).tr (FF.s _ (by omega))).tr (FF.s _ (by omega)))
  · intro f h1
    simp only [mF_sF, and_true]
    repeat' split
    all_goals first | rfl | omega
theorem stN_of {st : Nat} (h : st = 200 ∨ st = 304 ∨ st = 400 ∨ st = 404 ∨ st = 405 ∨ st = 413 ∨ st = 500 ∨ st = 501) : stN st := by
  unfold stN
  omega
theorem x_leftOut (fu : Nat) {st : Nat} (h : st < 1000) : fX7_isBodyLeftOut fu (nI st) M = some (if st = 400 ∨ st = 413 ∨ st = 431 ∨ st = 501 then 0 else 1, M) := by
  have n4 : (nI st = (400 : Int32)) ↔ st = 400 := nI_eq (b := 400) (by omega) (by decide)
  have n13 : (nI st = (413 : Int32)) ↔ st = 413 := nI_eq (b := 413) (by omega) (by decide)
  have n31 : (nI st = (431 : Int32)) ↔ st = 431 := nI_eq (b := 431) (by omega) (by decide)
  have n51 : (nI st = (501 : Int32)) ↔ st = 501 := nI_eq (b := 501) (by omega) (by decide)
  unfold fX7_isBodyLeftOut
  simp only [n4, n13, n31, n51]
  by_cases q1 : st = 400
  · rw [if_pos q1, if_pos (Or.inl q1), rN0]
  · rw [if_neg q1]
    by_cases q2 : st = 413
    · rw [if_pos q2, if_pos (by omega), rN0]
    · rw [if_neg q2]
      by_cases q3 : st = 431
      · rw [if_pos q3, if_pos (by omega), rN0]
      · rw [if_neg q3]
        by_cases q4 : st = 501
        · rw [if_pos q4, if_pos (by omega), rN0]
        · rw [if_neg q4, if_neg (by omega), rN1]
theorem sp_answer (fu : Nat) (hfu : 70000 ≤ fu) {KN KS t T k c nw im ig hd ft n F ek : Nat} {b0 : Int32} {v : Nat → Nat} {g : Nat → Int32} (h : TK A M KN KS t T im ig k c nw hd ft b0 v) (hk : k < 16) (hf : FI F ek im A M) (hn : 1 ≤ n) (hn2 : n ≤ hd) (g1 : ∀ j, j < n → g j = mA A (344 + 4 * k) j) (g2 : ∀ j, isB (g j)) (g3 : bv (mA A (344 + 4 * k) (n - 1)) = 10) (e1 : bv (mA A (344 + 4 * k) 0) ≠ 10) (e2 : 1 < n → ¬ (bv (mA A (344 + 4 * k) 0) = 13 ∧ bv (mA A (344 + 4 * k) 1) = 10)) (lv : (mF A 806 (342 + 4 * k)) = 0) (h0 : (v 7) = 0) (h1 : (v 2) = 1 + (v 4) + (v 5)) (h2 : (v 1) = (v 2)) (hst : (v 0) = 2 ∨ (v 0) = 7) :
    ∃ A' M' hd' b0' v', fX16_answer fu 323 (some (342 + 4 * k)) (nI n) A = some A' ∧
      ((rc (wA M 320 g) 0 (some (c + 2))).bind fun q15 => (fX0_leave fu q15 (nI n) (wA M 320 g)).bind fun M16 => (rc M16 7 (some 319)).bind fun q17 => b2 (fX7_readHead fu q17 (nI n) M16) fun v19 M18 => (rc M18 7 (some 319)).bind fun q20 => (fX7_give fu q20 (some c) v19 M18).bind fun M21 => b2 (fX7_isBodyLeftOut fu v19 M21) fun v23 M22 => if v23 = 0 then (fX7_lookAt_L81 fu (some (c + 2)) (some (c + 2)) (0 : Int32) M22) else ((gI M22 7 460 (some 319)).bind fun v24 => fX7_lookAt_L81 fu (some (c + 2)) (some (c + 2)) v24 M22)) = some M' ∧
      TK A' M' KN KS t T im ig k c nw hd' ft b0' v' ∧ FWA k A A' ∧ FWM c M M' := by
  have hR := h.rw'
  have hW := h.xw
  have hC := h.cn
  have hd1 := h.cr.hd1
  have hBA : By A := h.ba.2.2.2.2
  have hBM : By M := h.bm.2.2.2.2
  have hB : ∀ j, isB (mA A (344 + 4 * k) j) := fun j => hBA _ j (rw_cnR hR k hk).2.2
  have c319 := ok_ne hC.1 (xw_ok319 hW) (by decide)
  have c305 : c + 1 ≠ 305 := ok_ne hC.2.2.2.2.1 (xw_ok305 hW) (by decide)
  have him : im ≤ 65535 := h.ji.2.2.2.1
  -- the copy
  obtain ⟨m, cp⟩ := m_copyH (A := sF A 1066 323 (nI n)) fu hk hR hBA (n := n) (by omega) (by omega)
  generalize hA2 : wA (sF A 1066 323 (nI n)) 340 (fun j => if j < n then mA (sF A 1066 323 (nI n)) (344 + 4 * k) j else mA (sF A 1066 323 (nI n)) 340 j) = A2 at cp
  generalize hM0 : wA M 320 g = M0
  have fA2 : FQA A A2 := by subst hA2; exact (FQA.s _ (by decide)).tr (FQA.w _ (Or.inl rfl))
  have fM0 : FQM M M0 := by subst hM0; exact FQM.w _ (Or.inl rfl)
  have hA2h : ∀ j, j < n → mA A2 340 j = mA A (344 + 4 * k) j := fun j hj => by
    subst hA2
    rw [mA_wA_self]
    show (if j < n then _ else _) = _
    rw [if_pos hj]
    rfl
  have hM0h : ∀ j, j < n → mA M0 320 j = mA A (344 + 4 * k) j := fun j hj => by
    subst hM0
    rw [mA_wA_self]
    exact g1 j hj
  have v66 : mF A2 1066 323 = nI n := by subst hA2; rw [mF_wA, mF_sF, if_pos ⟨rfl, rfl⟩]
  have bA2 : Bd RM TM A2 := by
    subst hA2
    refine Bd_wA (Bd_same h.ba rfl rfl rfl rfl) (fun _ j => ?_)
    show isB (if j < n then mA A (344 + 4 * k) j else mA A 340 j)
    split
    · exact hB j
    · exact hBA _ j (rw_ok340 hR).2.2
  have bM0 : Bd RX TX M0 := by
    subst hM0
    exact Bd_wA h.bm (fun _ => g2)
  have tk0 := TK_q hk h bA2 bM0 fA2 fM0
  clear hA2 hM0
  -- the taking
  obtain ⟨A3, M1, k1, k2, tk1, k4, k5, k6, k7, k8, -, -, k11, k12, k13, -, k15, k16, k17, k18, k19⟩ := sp_take fu (by omega) tk0 hk hn2
  have hR3 := tk1.rw'
  have hW1 := tk1.xw
  -- the forgetting
  obtain ⟨A4, l1, l2, l3⟩ := m_forget hR3
  obtain ⟨M2, n1, n2, n3⟩ := x_forget fu hW1
  have fA4 : FQA A3 A4 := FF.fqA l1 (by intro f hf; omega)
  have fM2 : FQM M1 M2 := FF.fqM n2 (by intro f hf; omega)
  have tk2 := TK_q hk tk1 (Bd_same tk1.ba l1.1 l1.2.1 l1.2.2.1 l1.2.2.2.1) (Bd_same tk1.bm n2.1 n2.2.1 n2.2.2.1 n2.2.2.2.1) fA4 fM2
  have wA4 : FWA k A A4 := (fA2.wa.tr k4.wa).tr fA4.wa
  have wM2 : FWM c M M2 := (fM0.wm.tr k5.wm).tr fM2.wm
  have HH : HD (fun j => bv (mA A (344 + 4 * k) j)) n A4 M2 := by
    refine ⟨by omega, fun j => bv_lt _, fun j hj => ?_, fun j hj => ?_⟩
    · rw [l1.2.2.2.1, k16 340 (by omega) (by omega), hA2h j hj]
    · rw [n2.2.2.2.1, k8, hM0h j hj]
  have fi4 := FI_w hf hC hW hk wA4 wM2
  obtain ⟨A5, M3, st, r, me, a5, rd, r1, r2⟩ := sp_reads fu hfu (some (342 + 4 * k)) tk2.rw' tk2.ba.2.2.2.2 tk2.xw tk2.bm.2.2.2.2 HH hn g3 e1 e2 (by rw [l1.2.2.2.2 _ _ (by omega), k15 _ _ (by omega)]; exact v66)
    (PR.mk ⟨0, Nat.le_refl _, l2 1072 (by decide) (by decide), n3 457 (by omega)⟩ ⟨0, Nat.le_refl _, n3 458 (by omega), l2 1078 (by decide) (by decide)⟩ ⟨0, Nat.le_refl _, l2 1073 (by decide) (by decide), n3 459 (by omega), fun _ => ⟨l2 1076 (by decide) (by decide), l2 1077 (by decide) (by decide), l2 1075 (by decide) (by decide), n3 460 (by omega)⟩, fun z => absurd z (by decide)⟩ ⟨0, Nat.le_refl _, l2 1074 (by decide) (by decide), n3 461 (by omega), fun z => absurd rfl z⟩ ((l2 1070 (by decide) (by decide)).trans (n3 464 (by omega)).symm) (Or.inl (l2 1070 (by decide) (by decide))) ((l2 1071 (by decide) (by decide)).trans (n3 465 (by omega)).symm) (Or.inl (l2 1071 (by decide) (by decide))))
    (l2 1067 (by decide) (by decide)) (l2 1068 (by decide) (by decide)) (n3 453 (by omega)) tk2.ji fi4
  obtain ⟨d1, d2, d3, d4, d5, d6, d7, d8, d9, d10, d11, d12⟩ := rd
  have tk3 := TK_q hk tk2 (Bd_q tk2.ba d1.1 d1.2.1 d1.2.2.1 d3) (Bd_q tk2.bm d2.1 d2.2.1 d2.2.2.1 d4) d1 d2
  obtain ⟨V, V1, V2, V3⟩ : ∃ V, V ≤ 65536 ∧ (¬ (st = 400 ∨ st = 413 ∨ st = 501) → mF A5 1075 323 = nI V) ∧ (¬ (st = 400 ∨ st = 413 ∨ st = 501) → mF M3 460 319 = nI V) := by
    by_cases q : st = 400 ∨ st = 413 ∨ st = 501
    · exact ⟨0, by omega, fun z => absurd q z, fun z => absurd q z⟩
    · obtain ⟨V, q1, q2, q3⟩ := d12 (by omega) (by omega) (by omega)
      exact ⟨V, q1, fun _ => q2, fun _ => q3⟩
  have hR5 := tk3.rw'
  have hW3 := tk3.xw
  have L := m_L204 fu (ix := if st = 200 ∨ st = 304 then nI r else -1) (V := V) hk hR5 d5 d9 d11 V2
  generalize hclo : (if (mF M3 464 319 = 0 ∧ (mF M3 465 319 ≠ 0 ∨ mF M3 454 319 = 0)) ∧ ¬ (st = 400 ∨ st = 413 ∨ st = 431 ∨ st = 501 ∨ st = 500) then 0 else 1) = clo at L
  generalize hA6 : (if st = 400 ∨ st = 413 ∨ st = 501 then A5 else sF A5 806 (342 + 4 * k) (nI V)) = A6 at L
  have clo1 : clo ≤ 1 := by rw [← hclo]; split <;> omega
  have lv5 : mF A5 806 (342 + 4 * k) = 0 := by
    rw [d1.2.2.2.1 _ _ (by omega), fA4.2.2.2.1 _ _ (by omega), k6 806 (by omega), fA2.2.2.2.1 _ _ (by omega)]
    exact lv
  obtain ⟨l, l0, fA6, l6⟩ : ∃ l, l ≤ 65536 ∧ FF (fun f => f = 806) (342 + 4 * k) A5 A6 ∧ mF A6 806 (342 + 4 * k) = nI l ∧ (l = if st = 400 ∨ st = 413 ∨ st = 501 then 0 else V) := by
    by_cases q : st = 400 ∨ st = 413 ∨ st = 501
    · rw [if_pos q] at hA6
      subst hA6
      exact ⟨0, by omega, FF.rf, lv5, by rw [if_pos q]⟩
    · rw [if_neg q] at hA6
      subst hA6
      exact ⟨V, V1, FF.s _ rfl, by rw [mF_sF, if_pos ⟨rfl, rfl⟩], by rw [if_neg q]⟩
  obtain ⟨l6, l7⟩ := l6
  have wA6 : FWA k A A6 := (wA4.tr d1.wa).tr (FF.ca fA6 (by intro f hf; omega)).wa
  have wM3 : FWM c M M3 := wM2.tr d2.wm
  have fi6 := FI_w hf hC hW hk wA6 wM3
  obtain ⟨A7, M4, hl, bl, bp, mk, gv, GG⟩ := sp_give fu (by omega) (r := r) (me := me) (clo := clo) hk (fA6.rW hR5) (fA6.by' d3) hW3 d4 tk3.cn c319 c305 (stN_of d9) ((fA6.2.2.2.2 _ _ (by omega)).trans d5) ((fA6.2.2.2.2 _ _ (by omega)).trans d6) d7 d8 hclo.symm (fun z => by
      obtain ⟨w1, w2, L', P', w3, w4, w5, w6⟩ := d10 z
      refine ⟨w1, w2, L', P', w3, w4, ?_, w6⟩
      unfold PT at w5 ⊢
      rw [fA6.2.2.2.2 _ _ (by omega), fA6.2.2.2.1]
      exact w5) fi6 him
  -- the answer with the old number of bytes to leave
  generalize hX : sF A7 806 (342 + 4 * k) 0 = X
  have GX : GV k c im clo A5 M3 X M4 hl bl bp := by
    obtain ⟨fy, fz, q3, q4, q5, q6, q7, q8, q9, q10, q11, q12, q13, q14, q15, q16, q17, q18⟩ := GG
    have nx : ∀ f a, ¬ (f = 806 ∧ a = 342 + 4 * k) → mF X f a = mF A7 f a := fun f a z => by subst hX; rw [mF_sF, if_neg z]
    have ax : mA X = mA A7 := by subst hX; rfl
    refine ⟨⟨?_, ?_, ?_, fun f a z => ?_, fun a z1 z2 => ?_⟩, fz, ?_, q4, q5, ?_, q7, ?_, q9, ?_, q11, ?_, ?_, q14, ?_, q16, ?_, q18⟩
    · subst hX; exact fy.1.trans fA6.1
    · subst hX; exact fy.2.1.trans fA6.2.1
    · subst hX; exact fy.2.2.1.trans fA6.2.2.1
    · by_cases y : f = 806 ∧ a = 342 + 4 * k
      · obtain ⟨rfl, rfl⟩ := y
        rw [lv5]
        subst hX
        rw [mF_sF, if_pos ⟨rfl, rfl⟩]
      · rw [nx f a y, fy.2.2.2.1 f a z, fA6.2.2.2.2 f a y]
    · rw [ax, fy.2.2.2.2 a z1 z2, fA6.2.2.2.1]
    · intro a i hh
      rw [ax]
      subst hX
      exact q3 a i hh
    · rw [nx _ _ (by omega)]; exact q6
    · rw [ax]; exact q8
    · rw [nx _ _ (by omega)]; exact q10
    · rw [nx _ _ (by omega)]; exact q12
    · rw [nx _ _ (by omega), q13, fA6.2.2.2.2 _ _ (by omega)]
    · rw [nx _ _ (by omega)]; exact q15
    · rw [ax, ← fA6.2.2.2.1]; exact q17
  have tk4 := GV_tk tk3 hk GX clo1 h0 h1 h2 hst
  have tk5 := TK_leave tk4 l0
  have eX : sF X 806 (342 + 4 * k) (nI l) = A7 := by
    subst hX
    refine Mm_ext ?_ rfl rfl rfl rfl
    funext f a
    rw [mF_sF, mF_sF]
    by_cases y : f = 806 ∧ a = 342 + 4 * k
    · obtain ⟨rfl, rfl⟩ := y
      rw [if_pos ⟨rfl, rfl⟩, GG.1.2.2.2.1 _ _ (by omega), l6]
    · rw [if_neg y, if_neg y]
  rw [eX] at tk5
  obtain ⟨A8, M5, hd', l', sk1, sk2, tk6, sk4, sk5, -⟩ := sp_skip fu (by omega) tk5 hk
  refine ⟨A8, M5, hd', _, _, ?_, ?_, tk6, (wA6.tr GG.1.wa).tr sk4.wa, ?_⟩
  · have o := rw_ok323 hR
    unfold fX16_answer
    rw [pF_ok o, ob_some, cp, fX16_answer_L7, if_pos (nI_le (Nat.le_refl _) (by omega)), rc_ok (rw_ok323 tk0.rw'), ob_some, k1, ob_some]
    refine (l3 _).trans ?_
    refine r1.trans ?_
    rw [L]
    unfold fX16_answer_L351
    rw [rc_ok (rw_ok323 (fA6.rW hR5)), ob_some, mk, ob_some]
    exact sk1 (fun X => some X)
  · have st1 : st < 1000 := by omega
    have c7 : ∀ X, CnO X c → okA X 0 (c + 2) := fun X hX => hX.2.2.2.2.2.2.1
    have cc := c7 _ tk0.cn
    have c4 := c7 _ tk4.cn
    have c5 := c7 _ tk5.cn
    rw [rc_ok cc, ob_some, k2, ob_some, rc_ok (xw_ok319 hW1), ob_some]
    unfold fX7_readHead
    rw [rc_ok (xw_ok319 hW1), ob_some, n1, ob_some, r2, b2_some, rc_ok (xw_ok319 hW3), ob_some, gv, ob_some, x_leftOut fu st1, b2_some]
    have e460 : mF M4 460 319 = mF M3 460 319 := GG.2.1.2.2.2.1 _ _ (by omega)
    have hl81 : fX7_lookAt_L81 fu (some (c + 2)) (some (c + 2)) (nI l) M4 = some M5 := by
      unfold fX7_lookAt_L81
      rw [pF_ok c4, ob_some, rc_ok c5, ob_some, sk2, ob_some]
    by_cases q : st = 400 ∨ st = 413 ∨ st = 501
    · rw [if_pos (show st = 400 ∨ st = 413 ∨ st = 431 ∨ st = 501 by omega), if_pos rfl]
      rw [if_pos q] at l7
      rw [l7] at hl81
      exact hl81
    · rw [if_neg (show ¬ (st = 400 ∨ st = 413 ∨ st = 431 ∨ st = 501) by omega), if_neg (by decide), gI_ok (xw_ok319 tk4.xw), ob_some, e460, V3 q]
      rw [if_neg q] at l7
      rw [l7] at hl81
      exact hl81
  · refine ((wM3.tr GG.2.1.wm).tr ?_).tr sk5.wm
    exact (FF.cm (S := fun f => f = 3) (FF.s _ rfl) (Or.inr (Or.inl rfl))).wm
end Answer2
