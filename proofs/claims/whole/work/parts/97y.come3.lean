/-! ===== part 97y: what came is taken, in both ===== -/
section Come3
variable {A A' M M' : Mm}
/-- the state after the other side's end -/
def est (s : Nat) : Nat := if s = 2 then 7 else if s = 3 then 5 else 6
theorem sp_come (fu : Nat) (hfu : 5000 ≤ fu) {KN KS t T k c nw im ig hd ft bd da dx dl w : Nat} {b0 : Int32} {v : Nat → Nat} (h : TK A M KN KS t T im ig k c nw hd ft b0 v) (hk : k < 16) (hG : SG A M bd da dx dl w) (hst : (v 0) = 2 ∨ (v 0) = 3 ∨ (v 0) = 4) :
    ∃ A' M' hd' tk, fX16_arrived fu 323 (some (342 + 4 * k)) A = some A' ∧ fX9_takeData fu 317 (some c) M = some M' ∧ hd' ≤ 4096 ∧ tk ≤ 1 ∧ mS A' = mS A ∧ mG A' = mG A ∧ mB A' = mB A ∧ (∀ a, a ≠ 344 + 4 * k → a ≠ 345 + 4 * k → mA A' a = mA A a) ∧ mS M' = mS M ∧ mG M' = mG M ∧ mB M' = mB M ∧ (∀ a, a ≠ c + 3 → a ≠ c + 4 → mA M' a = mA M a) ∧ (∀ f a, ¬ ((f = 768 ∨ f = 804 ∨ f = 807 ∨ f = 808 ∨ f = 809 ∨ f = 810 ∨ f = 812 ∨ f = 813) ∧ a = 342 + 4 * k) → mF A' f a = mF A f a) ∧ (∀ f a, ¬ ((f = 64 ∨ f = 72 ∨ f = 73) ∧ a = c) → ¬ ((f = 1 ∨ f = 4 ∨ f = 7 ∨ f = 8 ∨ f = 9) ∧ a = c + 2) → mF M' f a = mF M f a) ∧
      (mF A' 804 (342 + 4 * k)) = (mF A 803 (342 + 4 * k)) + nI (hd' + tk) ∧ (mF M' 1 (c + 2)) = (mF A 803 (342 + 4 * k)) + nI (hd' + tk) ∧ (mF A' 807 (342 + 4 * k)) = (mF M' 4 (c + 2)) ∧ (mF A' 808 (342 + 4 * k)) = (mF M' 7 (c + 2)) ∧ ((mF A' 808 (342 + 4 * k)) ≠ 0 → (mF A' 810 (342 + 4 * k)) = (mF M' 9 (c + 2))) ∧ (mF A' 809 (342 + 4 * k)) = nI tk ∧ (mF M' 8 (c + 2)) = nI tk ∧ (mF A' 812 (342 + 4 * k)) = (mF M' 73 c) ∧ ((mF A' 812 (342 + 4 * k)) = (mF A 812 (342 + 4 * k)) ∨ (mF A' 812 (342 + 4 * k)) = nI nw) ∧
      (tk = 0 → (mF A' 768 (342 + 4 * k)) = (mF A 768 (342 + 4 * k)) ∧ (mF M' 64 c) = (mF M 64 c) ∧ (mF A' 813 (342 + 4 * k)) = (mF A 813 (342 + 4 * k)) ∧ (mF M' 72 c) = (mF M 72 c)) ∧ (tk = 1 → (mF A' 768 (342 + 4 * k)) = nI (est (v 0)) ∧ (mF M' 64 c) = nI (est (v 0)) ∧ ((v 0) = 4 → (mF A' 813 (342 + 4 * k)) = nI nw ∧ (mF M' 72 c) = nI nw + 60000)) ∧
      RT (mF A 803 (342 + 4 * k)) hd' (mA A' (345 + 4 * k)) (mA A' (344 + 4 * k)) (mA M' (c + 4)) (mA M' (c + 3)) ∧ (hd' < 4096 → mA A' (345 + 4 * k) hd' = 0) ∧ (tk = 0 → (mF A' 808 (342 + 4 * k)) ≠ 0 → (mF A' 804 (342 + 4 * k)) ≠ (mF A' 810 (342 + 4 * k))) := by
  have hR := h.rw'
  have hW := h.xw
  have hA := rw_cnO hR k hk
  have o323 := rw_ok323 hR
  have o3 := xw_ok314 hW
  have o317 := xw_ok317 hW
  have hC := h.cn
  have hC' := hC
  obtain ⟨c1, c2, c3, c4, c5, c6, c7, c8, c9, c10, c11, c12, c13, c14⟩ := hC'
  have hE := h.ce
  have hS := h.cs
  have hr := h.cr
  have hdal := hG.dal
  have one0 : ¬ (1 : Int32) = 0 := by decide
  have n31 := ok_ne o3 c1 (by decide)
  have n32 := ok_ne o3 c7 (by decide)
  have hhd := hr.hd1
  have ft0 : ft = 0 := by
    apply hr.st.mpr
    rw [hS.st]
    rcases hst with q | q | q <;> rw [q] <;> decide
  subst ft0
  have enx : (mF A 804 (342 + 4 * k)) = (mF A 803 (342 + 4 * k)) + nI hd := hr.nxN
  have eft : (mF A 809 (342 + 4 * k)) = 0 := hr.ftN
  have ehl : hldA A k = nI hd := hldA_nI hr
  have e4096 : (4096 : Int32) - nI hd = nI (4096 - hd) := nI_sub (x := 4096) hhd
  have stA : ∀ x : Nat, x < 100 → ((mF A 768 (342 + 4 * k)) = nI x ↔ (v 0) = x) := fun x hx => by
    rw [hS.st]
    have := hS.st1
    exact nI_eq (by omega) (by omega)
  have st1 : (mF A 768 (342 + 4 * k)) = (1 : Int32) ↔ (v 0) = 1 := stA 1 (by decide)
  have st2 : (mF A 768 (342 + 4 * k)) = (2 : Int32) ↔ (v 0) = 2 := stA 2 (by decide)
  have st3 : (mF A 768 (342 + 4 * k)) = (3 : Int32) ↔ (v 0) = 3 := stA 3 (by decide)
  have st4 : (mF A 768 (342 + 4 * k)) = (4 : Int32) ↔ (v 0) = 4 := stA 4 (by decide)
  -- the reference begins
  obtain ⟨A0, a01, a02, a03, a04, a05⟩ : ∃ A0, fX16_arrived fu 323 (some (342 + 4 * k)) A = fX16_arrived_L41 fu fu 323 (some (342 + 4 * k)) (nI (4096 - hd)) ((mF A 803 (342 + 4 * k)) + nI hd) (nI 0) A0 ∧ FF (fun f => f = 807 ∨ f = 812) (342 + 4 * k) A A0 ∧ (dl ≠ 0 → (mF A0 807 (342 + 4 * k)) = 1 ∧ (mF A0 812 (342 + 4 * k)) = nI nw) ∧ (dl = 0 → (mF A0 807 (342 + 4 * k)) = (mF A 807 (342 + 4 * k)) ∧ (mF A0 812 (342 + 4 * k)) = (mF A 812 (342 + 4 * k))) ∧ True := by
    have tD : fX16_takesData fu (some (342 + 4 * k)) A = some (1, A) := by
      unfold fX16_takesData
      simp only [gI_ok hA, ob_some, rN1, rN0]
      rcases hst with q | q | q
      · rw [if_pos (st2.mpr q)]
      · rw [if_neg (fun e => by have := st2.mp e; omega), if_pos (st3.mpr q)]
      · rw [if_neg (fun e => by have := st2.mp e; omega), if_neg (fun e => by have := st3.mp e; omega), if_pos (st4.mpr q)]
    unfold fX16_arrived fX16_arrived_L38
    rw [tD, b2_some, if_neg one0, rc_ok hA, ob_some, m_open hR hk, b2_some, ehl, e4096, gI_ok hA, ob_some, enx, gI_ok o323, ob_some, hG.dl]
    by_cases q : dl = 0
    · rw [q, if_pos (show nI 0 ≤ 0 by decide)]
      exact ⟨A, rfl, FF.rf, fun e => absurd rfl e, fun _ => ⟨rfl, rfl⟩, trivial⟩
    · rw [if_neg (nI_nle (by omega) (by omega)), pZ_ok hA (Or.inr rfl), ob_some, gI_ok (by rw [ok_sF]; exact o323), ob_some, mF_sF, if_neg (by omega), h.nw, pF_ok (by rw [ok_sF]; exact hA), ob_some]
      exact ⟨_, rfl, (FF.s _ (Or.inl rfl)).tr (FF.s _ (Or.inr rfl)), fun _ => ⟨by simp only [mF_sF, reduceIte, Nat.reduceEqDiff, Nat.reduceAdd, Nat.reduceMul, Nat.reduceLT, Nat.reduceLeDiff, and_true, true_and, and_false, false_and, and_self, ne_eq, not_true_eq_false, not_false_eq_true, Option.some.injEq, reduceCtorEq], by simp only [mF_sF, reduceIte, Nat.reduceEqDiff, Nat.reduceAdd, Nat.reduceMul, Nat.reduceLT, Nat.reduceLeDiff, and_true, true_and, and_false, false_and, and_self, ne_eq, not_true_eq_false, not_false_eq_true, Option.some.injEq, reduceCtorEq]⟩, fun e => absurd e q, trivial⟩
  have F0 : ∀ f a, ¬ ((f = 807 ∨ f = 812) ∧ a = 342 + 4 * k) → mF A0 f a = mF A f a := a02.2.2.2.2
  -- the class begins
  obtain ⟨N0, n01, n02, n03, n04⟩ : ∃ N0, fX9_takeData fu 317 (some c) M = fX9_takeData_L45 fu 317 (some c) N0 ∧ FF (fun f => f = 73) c M N0 ∧ (dl ≠ 0 → (mF N0 73 c) = nI nw) ∧ (dl = 0 → (mF N0 73 c) = (mF M 73 c)) := by
    have : fX9_takeData fu 317 (some c) M = fX9_takeData_L24 fu 317 (some c) M := by
      unfold fX9_takeData
      simp only [gI_ok c1, ob_some, ← hE.st]
      rcases hst with q | q | q
      · rw [if_pos (st2.mpr q)]
      · rw [if_neg (fun e => by have := st2.mp e; omega), if_pos (st3.mpr q)]
      · rw [if_neg (fun e => by have := st2.mp e; omega), if_neg (fun e => by have := st3.mp e; omega), if_pos (st4.mpr q)]
    rw [this]
    unfold fX9_takeData_L24
    rw [gR_ok o317, ob_some, xw_g579_317 hW, gI_ok o3, ob_some, hG.dlx]
    by_cases q : dl = 0
    · rw [q, if_pos (show nI 0 ≤ 0 by decide)]
      exact ⟨M, rfl, FF.rf, fun e => absurd rfl e, fun _ => rfl⟩
    · rw [if_neg (nI_nle (by omega) (by omega)), gR_ok o317, ob_some, xw_g576_317 hW, gI_ok (xw_ok304 hW), ob_some, h.wnow, pF_ok c1, ob_some]
      exact ⟨_, rfl, FF.s _ rfl, fun _ => by rw [mF_sF, if_pos ⟨rfl, rfl⟩], fun e => absurd e q⟩
  have X0 : ∀ f a, ¬ (f = 73 ∧ a = c) → mF N0 f a = mF M f a := fun f a hh => n02.2.2.2.2 f a hh
  have hW0 : XW N0 := n02.xW hW
  have hC0 : CnO N0 c := n02.cN hC
  have hG0 : SG A N0 bd da dx dl w := by
    have e3 : ∀ f, mF N0 f 314 = mF M f 314 := fun f => X0 f _ (fun e => n31 e.2)
    refine SG.mk ?_ ?_ ?_ ?_ ?_ ?_ hG.wi ?_ hG.w1 hG.dl ?_ hG.da ?_ hG.dal ?_ ?_ ?_ ?_ ?_ hG.b8 ?_ ?_ ?_
    · rw [e3]; exact hG.sd
    · rw [e3]; exact hG.fp
    · rw [e3]; exact hG.tp
    · rw [e3]; exact hG.sq
    · rw [e3]; exact hG.ak
    · rw [e3]; exact hG.fl
    · rw [e3]; exact hG.wx
    · rw [e3]; exact hG.dlx
    · rw [e3]; exact hG.dx
    · rw [n02.2.1]; exact hG.bd
    · exact n02.ok hG.bo
    · rw [n02.1]; exact hG.bl
    · rw [n02.1]; exact hG.bl2
    · rw [n02.2.2.2.1]; exact hG.by'
    · rw [n02.1]; exact hG.t6
    · rw [n02.1]; exact hG.t1
    · rw [n02.1]; exact hG.t0
  have hl0 : hldX N0 c = nI hd := by
    rw [← ehl, hldX_eq hr]
    unfold hldX
    rw [X0 _ _ (by omega), X0 _ _ (by omega), X0 _ _ (by omega)]
  -- is the end known
  obtain ⟨p, hp⟩ : ∃ p : Bool, (p = true) ↔ (¬ ((mF A 1060 323) &&& 1) = 0 ∧ (mF A 808 (342 + 4 * k)) = 0 ∧ ¬ ((mF A 1058 323) + nI dl) - ((mF A 803 (342 + 4 * k)) + nI hd) < 0 ∧ ((mF A 1058 323) + nI dl) - ((mF A 803 (342 + 4 * k)) + nI hd + nI (4096 - hd)) < 0) := ⟨decide (¬ ((mF A 1060 323) &&& 1) = 0 ∧ (mF A 808 (342 + 4 * k)) = 0 ∧ ¬ ((mF A 1058 323) + nI dl) - ((mF A 803 (342 + 4 * k)) + nI hd) < 0 ∧ ((mF A 1058 323) + nI dl) - ((mF A 803 (342 + 4 * k)) + nI hd + nI (4096 - hd)) < 0), decide_eq_true_iff⟩
  have hpx := x_take fu hW0 hC0 hG0 (p = true) (by
    rw [hp, X0 7 _ (by omega), X0 1 _ (by omega), hl0, e4096, ← hr.fk, ← hr.nx, enx]) (by omega)
  obtain ⟨N1, n11, n12, n13⟩ : ∃ N1, (if dl = 0 ∧ ((mF A 1060 323) &&& 1) = 0 then (if p = true then sF (sF N0 7 (c + 2) 1) 9 (c + 2) ((mF A 1058 323) + nI dl) else N0) else sF (if p = true then sF (sF N0 7 (c + 2) 1) 9 (c + 2) ((mF A 1058 323) + nI dl) else N0) 4 (c + 2) 1) = N1 ∧ FF (fun f => f = 4 ∨ f = 7 ∨ f = 9) (c + 2) N0 N1 ∧ ((mF N1 7 (c + 2)) = (if p = true then 1 else (mF M 7 (c + 2))) ∧ (mF N1 9 (c + 2)) = (if p = true then (mF A 1058 323) + nI dl else (mF M 9 (c + 2))) ∧ (mF N1 4 (c + 2)) = (if dl = 0 ∧ ((mF A 1060 323) &&& 1) = 0 then (mF M 4 (c + 2)) else 1)) := by
    have y7 := X0 7 (c + 2) (by omega)
    have y9 := X0 9 (c + 2) (by omega)
    have y4 := X0 4 (c + 2) (by omega)
    refine ⟨_, rfl, ?_, ?_⟩
    · by_cases q : dl = 0 ∧ ((mF A 1060 323) &&& 1) = 0
      · rw [if_pos q]
        by_cases q2 : p = true
        · rw [if_pos q2]; exact (FF.s _ (Or.inr (Or.inl rfl))).tr (FF.s _ (Or.inr (Or.inr rfl)))
        · rw [if_neg q2]; exact FF.rf
      · rw [if_neg q]
        by_cases q2 : p = true
        · rw [if_pos q2]; exact ((FF.s _ (Or.inr (Or.inl rfl))).tr (FF.s _ (Or.inr (Or.inr rfl)))).tr (FF.s _ (Or.inl rfl))
        · rw [if_neg q2]; exact FF.s _ (Or.inl rfl)
    · by_cases q : dl = 0 ∧ ((mF A 1060 323) &&& 1) = 0
      · simp only [if_pos q]
        by_cases q2 : p = true
        · simp only [if_pos q2, mF_sF, reduceIte, Nat.reduceEqDiff, Nat.reduceAdd, Nat.reduceMul, Nat.reduceLT, Nat.reduceLeDiff, and_true, true_and, and_false, false_and, and_self, ne_eq, not_true_eq_false, not_false_eq_true, Option.some.injEq, reduceCtorEq]; exact y4
        · simp only [if_neg q2]; exact ⟨y7, y9, y4⟩
      · simp only [if_neg q]
        by_cases q2 : p = true
        · simp only [if_pos q2, mF_sF, reduceIte, Nat.reduceEqDiff, Nat.reduceAdd, Nat.reduceMul, Nat.reduceLT, Nat.reduceLeDiff, and_true, true_and, and_false, false_and, and_self, ne_eq, not_true_eq_false, not_false_eq_true, Option.some.injEq, reduceCtorEq]
        · simp only [if_neg q2, mF_sF, reduceIte, Nat.reduceEqDiff, Nat.reduceAdd, Nat.reduceMul, Nat.reduceLT, Nat.reduceLeDiff, and_true, true_and, and_false, false_and, and_self, ne_eq, not_true_eq_false, not_false_eq_true, Option.some.injEq, reduceCtorEq]; exact ⟨y7, y9⟩
  rw [n11] at hpx
  have X1 : ∀ f a, ¬ (f = 73 ∧ a = c) → ¬ ((f = 4 ∨ f = 7 ∨ f = 9) ∧ a = c + 2) → mF N1 f a = mF M f a := fun f a h1 h2 => (n12.2.2.2.2 f a h2).trans (X0 f a h1)
  have hW1 : XW N1 := n12.xW hW0
  have hC1 : CnO N1 c := n12.cN hC0
  have s1 : mS N1 = mS M := n12.1.trans n02.1
  have g1 : mG N1 = mG M := n12.2.1.trans n02.2.1
  have r1 : mB N1 = mB M := n12.2.2.1.trans n02.2.2.1
  have d1 : mA N1 = mA M := n12.2.2.2.1.trans n02.2.2.2.1
  -- the bytes
  have hQ : AQ A0 N1 k c hd dl da dx bd (mF A 1058 323) (mF A 803 (342 + 4 * k)) := by
    have ea : mA A0 = mA A := a02.2.2.2.1
    refine AQ.mk (a02.rW hR) hW1 hC1 (fun j => by rw [d1]; exact h.bm.2.2.2.2 bd j hG.bo.2.2) hhd ?_ ?_ ?_ ?_ ?_ ?_ ?_ ?_ ?_ ?_ ?_ ?_ hdal ?_ ?_ ?_
    · rw [F0 _ _ (by omega)]; exact hG.dl
    · rw [F0 _ _ (by omega)]
    · rw [F0 _ _ (by omega)]
    · rw [F0 _ _ (by omega)]; exact hG.da
    · rw [X1 _ _ (fun e => n31 e.2) (fun e => n32 e.2)]; exact hG.dlx
    · rw [X1 _ _ (fun e => n31 e.2) (fun e => n32 e.2)]; exact hG.sq.symm
    · rw [X1 _ _ (by omega) (by omega), ← hr.nx]; exact enx
    · rw [X1 _ _ (fun e => n31 e.2) (fun e => n32 e.2)]; exact hG.dx
    · rw [g1]; exact hG.bd
    · unfold okA; rw [s1]; exact hG.bo
    · rw [s1]; exact hG.bl
    · rw [s1]; exact hG.bl2
    · rw [ea, d1]; exact hG.by'
    · exact fun e => hG.t0 (by rw [e]; exact c7.2.2)
    · rw [ea, d1]
      exact ⟨hr.rw, hr.th rfl⟩
  obtain ⟨A2, N2, l1, l2, l3, l4, l5, l6⟩ := arr_loop fu hk dl A0 N1 0 (fu - 1) (fu - 1) (by omega) (by omega) (by omega) hQ
  rw [show fu - 1 + 1 = fu by omega] at l1 l2
  have hR2 := l5.rw'
  have hC2 := l5.cn
  obtain ⟨A3, N3, hd', m1, m2, m3, m4, m5, m6, m7, m8, m9, m10, m11⟩ := go_loop fu (w := nI (4096 - hd)) (f := (mF A 803 (342 + 4 * k)) + nI hd) hk (4096 - hd) A2 N2 hd 0 (fu - 1) (fu - 1) (by omega) (by omega) (by omega) (by omega) hR2 hC2 l5.a3 (by rw [l3.2.2.2.1, F0 _ _ (by omega)]; exact enx) l5.x3 l5.rt
  rw [show fu - 1 + 1 = fu by omega] at m1 m2
  have hR3 : RW A3 := m5.rW hR2
  have F3 : ∀ f a, ¬ ((f = 804 ∨ f = 807 ∨ f = 812) ∧ a = 342 + 4 * k) → mF A3 f a = mF A f a := fun f a hh => (m5.2.2.2.2 f a (fun e => hh ⟨Or.inl e.1, e.2⟩)).trans (by rw [l3.2.2.2.1]; exact F0 f a (fun e => hh ⟨by omega, e.2⟩))
  have F3' : ∀ f, f ≠ 804 → mF A3 f (342 + 4 * k) = mF A0 f (342 + 4 * k) := fun f hf => (m5.2.2.2.2 f _ (fun e => hf e.1)).trans (by rw [l3.2.2.2.1])
  have e176 := m_L176 fu hR3 (k := k) (dl := dl) (w := nI (4096 - hd)) (f := (mF A 803 (342 + 4 * k)) + nI hd) hk (by rw [F3 _ _ (by omega)]; exact hG.dl) (p = true) (by rw [hp, F3 1060 323 (by omega), F3 808 _ (by omega), F3 1058 323 (by omega)])
  -- the end, in the reference
  obtain ⟨A5, q1, q2, q3, q4, q5⟩ : ∃ A5, fX16_arrived_L176 fu 323 (some (342 + 4 * k)) (nI (4096 - hd)) ((mF A 803 (342 + 4 * k)) + nI hd) A3 = fX16_arrived_L246 fu 323 (some (342 + 4 * k)) A5 ∧ FF (fun f => f = 807 ∨ f = 808 ∨ f = 810) (342 + 4 * k) A3 A5 ∧ (mF A5 808 (342 + 4 * k)) = (if p = true then 1 else (mF A 808 (342 + 4 * k))) ∧ (mF A5 810 (342 + 4 * k)) = (if p = true then (mF A 1058 323) + nI dl else (mF A 810 (342 + 4 * k))) ∧ (mF A5 807 (342 + 4 * k)) = (if dl = 0 ∧ ((mF A 1060 323) &&& 1) = 0 then (mF A 807 (342 + 4 * k)) else 1) := by
    have z807 : (mF A3 807 (342 + 4 * k)) = (if dl = 0 then (mF A 807 (342 + 4 * k)) else 1) := by
      rw [F3' _ (by decide)]
      by_cases q : dl = 0
      · rw [if_pos q]; exact (a04 q).1
      · rw [if_neg q]; exact (a03 q).1
    have z808 : (mF A3 808 (342 + 4 * k)) = (mF A 808 (342 + 4 * k)) := F3 _ _ (by omega)
    have z810 : (mF A3 810 (342 + 4 * k)) = (mF A 810 (342 + 4 * k)) := F3 _ _ (by omega)
    have znum : (mF A3 1058 323) = (mF A 1058 323) := F3 _ _ (by omega)
    have zfl : (mF A3 1060 323) = (mF A 1060 323) := F3 _ _ (by omega)
    rw [e176, znum]
    by_cases q2 : p = true
    · rw [if_pos q2, m_L233 fu (B := sF (sF A3 808 (342 + 4 * k) 1) 810 (342 + 4 * k) ((mF A 1058 323) + nI dl)) hR3 hk]
      rw [show mF (sF (sF A3 808 (342 + 4 * k) 1) 810 (342 + 4 * k) ((mF A 1058 323) + nI dl)) 1060 323 = (mF A 1060 323) by rw [mF_sF, if_neg (by omega), mF_sF, if_neg (by omega)]; exact zfl]
      have qf := (hp.mp q2).1
      rw [if_neg qf]
      refine ⟨_, rfl, ((FF.s _ (Or.inr (Or.inl rfl))).tr (FF.s _ (Or.inr (Or.inr rfl)))).tr (FF.s _ (Or.inl rfl)), ?_, ?_, ?_⟩
      · rw [if_pos q2, mF_sF, if_neg (by omega), mF_sF, if_neg (by omega), mF_sF, if_pos ⟨rfl, rfl⟩]
      · rw [if_pos q2, mF_sF, if_neg (by omega), mF_sF, if_pos ⟨rfl, rfl⟩]
      · rw [if_neg (fun e => qf e.2), mF_sF, if_pos ⟨rfl, rfl⟩]
    · rw [if_neg q2, m_L233 fu hR3 hk, zfl]
      by_cases qf : ((mF A 1060 323) &&& 1) = 0
      · rw [if_pos qf]
        refine ⟨_, rfl, FF.rf, z808.trans (if_neg q2).symm, z810.trans (if_neg q2).symm, ?_⟩
        rw [z807]
        by_cases qd : dl = 0
        · rw [if_pos qd, if_pos ⟨qd, qf⟩]
        · rw [if_neg qd, if_neg (fun e => qd e.1)]
      · rw [if_neg qf]
        refine ⟨_, rfl, FF.s _ (Or.inl rfl), ?_, ?_, ?_⟩
        · rw [if_neg q2, mF_sF, if_neg (by omega)]; exact z808
        · rw [if_neg q2, mF_sF, if_neg (by omega)]; exact z810
        · rw [if_neg (fun e => qf e.2), mF_sF, if_pos ⟨rfl, rfl⟩]
  have hR5 : RW A5 := q2.rW hR3
  have hA5 := rw_cnO hR5 k hk
  have F5 : ∀ f a, ¬ ((f = 804 ∨ f = 807 ∨ f = 808 ∨ f = 810 ∨ f = 812) ∧ a = 342 + 4 * k) → mF A5 f a = mF A f a := fun f a hh => (q2.2.2.2.2 f a (fun e => hh ⟨by omega, e.2⟩)).trans (F3 f a (fun e => hh ⟨by omega, e.2⟩))
  have z804 : (mF A5 804 (342 + 4 * k)) = (mF A 803 (342 + 4 * k)) + nI hd' := (q2.2.2.2.2 _ _ (by omega)).trans m7
  have z812 : (mF A5 812 (342 + 4 * k)) = (mF A0 812 (342 + 4 * k)) := (q2.2.2.2.2 _ _ (by omega)).trans (F3' _ (by decide))
  have X3 : ∀ f a, ¬ (f = 73 ∧ a = c) → ¬ ((f = 1 ∨ f = 4 ∨ f = 7 ∨ f = 9) ∧ a = c + 2) → mF N3 f a = mF M f a := fun f a h1 h2 => (m6.2.2.2.1 f a (fun e => h2 ⟨Or.inl e.1, e.2⟩)).trans (by rw [l4.2.2.2.1]; exact X1 f a h1 (fun e => h2 ⟨by omega, e.2⟩))
  have X3' : ∀ f a, ¬ (f = 1 ∧ a = c + 2) → mF N3 f a = mF N1 f a := fun f a hh => (m6.2.2.2.1 f a hh).trans (by rw [l4.2.2.2.1])
  have s3 : mS N3 = mS M := m6.1.trans (l4.1.trans s1)
  have g3 : mG N3 = mG M := m6.2.1.trans (l4.2.1.trans g1)
  have r3 : mB N3 = mB M := m6.2.2.1.trans (l4.2.2.1.trans r1)
  have hC3 : CnO N3 c := by rw [show CnO N3 c = CnO M c from by unfold CnO okA; rw [s3, g3]]; exact hC
  have hW3 : XW N3 := by rw [show XW N3 = XW M from by unfold XW okA; rw [s3, g3]]; exact hW
  have x1c := hC3.1
  have x7 := hC3.2.2.2.2.2.2.1
  have w7 : (mF N3 7 (c + 2)) = (if p = true then 1 else (mF M 7 (c + 2))) := (X3' 7 _ (by omega)).trans n13.1
  have w9 : (mF N3 9 (c + 2)) = (if p = true then (mF A 1058 323) + nI dl else (mF M 9 (c + 2))) := (X3' 9 _ (by omega)).trans n13.2.1
  have w4 : (mF N3 4 (c + 2)) = (if dl = 0 ∧ ((mF A 1060 323) &&& 1) = 0 then (mF M 4 (c + 2)) else 1) := (X3' 4 _ (by omega)).trans n13.2.2
  have w8 : (mF N3 8 (c + 2)) = 0 := by rw [X3 8 _ (by omega) (by omega), ← hr.fT]; exact eft
  have w73 : (mF N3 73 c) = (mF N0 73 c) := (X3' 73 _ (by omega)).trans (n12.2.2.2.2 _ _ (by omega))
  have v8 : (mF A5 809 (342 + 4 * k)) = 0 := (F5 _ _ (by omega)).trans eft
  have fkE : (mF A5 808 (342 + 4 * k)) = (mF N3 7 (c + 2)) := by rw [q3, w7, hr.fk]
  have fqE : (mF A5 808 (342 + 4 * k)) ≠ 0 → (mF A5 810 (342 + 4 * k)) = (mF N3 9 (c + 2)) := fun hh => by
    rw [q4, w9]
    by_cases qp : p = true
    · rw [if_pos qp, if_pos qp]
    · rw [if_neg qp, if_neg qp]
      rw [q3, if_neg qp] at hh
      exact hr.fq hh
  have owE : (mF A5 807 (342 + 4 * k)) = (mF N3 4 (c + 2)) := by rw [q5, w4, hr.ow]
  have laE : (mF A5 812 (342 + 4 * k)) = (mF N3 73 c) ∧ ((mF A5 812 (342 + 4 * k)) = (mF A 812 (342 + 4 * k)) ∨ (mF A5 812 (342 + 4 * k)) = nI nw) := by
    rw [z812, w73]
    by_cases qd : dl = 0
    · rw [(a04 qd).2, n04 qd]
      refine ⟨hE.la (fun e => ?_), Or.inl rfl⟩
      have := st1.mp e
      omega
    · rw [(a03 qd).2, n03 qd]
      exact ⟨rfl, Or.inr rfl⟩
  have runA : fX16_arrived fu 323 (some (342 + 4 * k)) A = fX16_arrived_L246 fu 323 (some (342 + 4 * k)) A5 := by
    rw [a01, l1, m1, q1]
  have L63 : fX0_take_L63 fu (c + 2) (some 314) N1 = if (mF N3 7 (c + 2)) = 0 then some (0, N3) else if (mF N3 1 (c + 2)) = (mF N3 9 (c + 2)) then some (1, sF (sF N3 1 (c + 2) ((mF N3 1 (c + 2)) + 1)) 8 (c + 2) 1) else some (0, N3) := by
    unfold fX0_take_L63 fX0_putAhead fX0_goOverWhatIsThere
    have hl1 : hldX N1 c = nI hd := by
      rw [← ehl, hldX_eq hr]
      unfold hldX
      rw [X1 _ _ (by omega) (by omega), X1 _ _ (by omega) (by omega), X1 _ _ (by omega) (by omega)]
    rw [rc_ok hC1.2.2.2.2.2.2.1, ob_some, rc_ok hC1.2.2.2.2.2.2.1, ob_some, x_window hC1.2.2.2.2.2.2.1, b2_some, hl1, e4096]
    have l2' : fX0_putAhead_L7 fu fu (c + 2) (some 314) (nI (4096 - hd)) (0 : Int32) N1 = some N2 := l2
    have m2' : fX0_goOverWhatIsThere_L2 fu fu (c + 2) (0 : Int32) N2 = some N3 := m2
    rw [l2', ob_some, rc_ok hC2.2.2.2.2.2.2.1, ob_some, m2', ob_some, gI_ok x7, ob_some]
    by_cases y1 : (mF N3 7 (c + 2)) = 0
    · rw [if_pos y1, if_pos y1, rN0]
    · rw [if_neg y1, if_neg y1, gI_ok x7, ob_some, w8, if_pos rfl, gI_ok x7, ob_some, gI_ok x7, ob_some]
      by_cases y2 : (mF N3 1 (c + 2)) = (mF N3 9 (c + 2))
      · rw [if_pos y2, if_pos y2, ob_some, pF_ok x7, ob_some, pZ_ok (by rw [ok_sF]; exact x7) (Or.inr rfl), ob_some, rN1]
      · rw [if_neg y2, if_neg y2, rN0]
  have runX : fX9_takeData fu 317 (some c) M = b2 (fX0_take_L63 fu (c + 2) (some 314) N1) (fun v5 M4 => if v5 = 0 then some M4 else (gR M4 9 576 (some 317)).bind fun v6 => (gI M4 10 641 v6).bind fun v7 => (rc M4 1 (some c)).bind fun q8 => (fX1_otherSideEnds fu q8 v7 M4).bind fun M9 => some M9) := by
    rw [n01]
    unfold fX9_takeData_L45
    rw [gR_ok hC0.1, ob_some, hC0.2.2.1, gR_ok (xw_ok317 hW0), ob_some, xw_g579_317 hW0, rc_ok hC0.2.2.2.2.2.2.1, ob_some, hpx]
  have nxE : (mF N3 1 (c + 2)) = (mF A 803 (342 + 4 * k)) + nI hd' := m8
  have aA5 : ∀ a, a ≠ 344 + 4 * k → a ≠ 345 + 4 * k → mA A5 a = mA A a := fun a h1 h2 => by rw [q2.2.2.2.1, m5.2.2.2.1, l3.2.2.2.2 a h1 h2, a02.2.2.2.1]
  have aN3 : ∀ a, a ≠ c + 3 → a ≠ c + 4 → mA N3 a = mA M a := fun a h1 h2 => by rw [m6.2.2.2.2 a h2, l4.2.2.2.2 a h1 h2, d1]
  have hRT : RT (mF A 803 (342 + 4 * k)) hd' (mA A5 (345 + 4 * k)) (mA A5 (344 + 4 * k)) (mA N3 (c + 4)) (mA N3 (c + 3)) := by rw [q2.2.2.2.1]; exact m9
  have hstp : hd' < 4096 → mA A5 (345 + 4 * k) hd' = 0 := by rw [q2.2.2.2.1]; exact m10
  have sS : mS A5 = mS A := by rw [q2.1, m5.1, l3.1, a02.1]
  have sG : mG A5 = mG A := by rw [q2.2.1, m5.2.1, l3.2.1, a02.2.1]
  have sB : mB A5 = mB A := by rw [q2.2.2.1, m5.2.2.1, l3.2.2.1, a02.2.2.1]
  have notk : fX16_arrived_L246 fu 323 (some (342 + 4 * k)) A5 = some A5 → fX0_take_L63 fu (c + 2) (some 314) N1 = some (0, N3) → ((mF A5 808 (342 + 4 * k)) ≠ 0 → (mF A5 804 (342 + 4 * k)) ≠ (mF A5 810 (342 + 4 * k))) → ∃ A' M' hd' tk, fX16_arrived fu 323 (some (342 + 4 * k)) A = some A' ∧ fX9_takeData fu 317 (some c) M = some M' ∧ hd' ≤ 4096 ∧ tk ≤ 1 ∧ mS A' = mS A ∧ mG A' = mG A ∧ mB A' = mB A ∧ (∀ a, a ≠ 344 + 4 * k → a ≠ 345 + 4 * k → mA A' a = mA A a) ∧ mS M' = mS M ∧ mG M' = mG M ∧ mB M' = mB M ∧ (∀ a, a ≠ c + 3 → a ≠ c + 4 → mA M' a = mA M a) ∧ (∀ f a, ¬ ((f = 768 ∨ f = 804 ∨ f = 807 ∨ f = 808 ∨ f = 809 ∨ f = 810 ∨ f = 812 ∨ f = 813) ∧ a = 342 + 4 * k) → mF A' f a = mF A f a) ∧ (∀ f a, ¬ ((f = 64 ∨ f = 72 ∨ f = 73) ∧ a = c) → ¬ ((f = 1 ∨ f = 4 ∨ f = 7 ∨ f = 8 ∨ f = 9) ∧ a = c + 2) → mF M' f a = mF M f a) ∧
      (mF A' 804 (342 + 4 * k)) = (mF A 803 (342 + 4 * k)) + nI (hd' + tk) ∧ (mF M' 1 (c + 2)) = (mF A 803 (342 + 4 * k)) + nI (hd' + tk) ∧ (mF A' 807 (342 + 4 * k)) = (mF M' 4 (c + 2)) ∧ (mF A' 808 (342 + 4 * k)) = (mF M' 7 (c + 2)) ∧ ((mF A' 808 (342 + 4 * k)) ≠ 0 → (mF A' 810 (342 + 4 * k)) = (mF M' 9 (c + 2))) ∧ (mF A' 809 (342 + 4 * k)) = nI tk ∧ (mF M' 8 (c + 2)) = nI tk ∧ (mF A' 812 (342 + 4 * k)) = (mF M' 73 c) ∧ ((mF A' 812 (342 + 4 * k)) = (mF A 812 (342 + 4 * k)) ∨ (mF A' 812 (342 + 4 * k)) = nI nw) ∧
      (tk = 0 → (mF A' 768 (342 + 4 * k)) = (mF A 768 (342 + 4 * k)) ∧ (mF M' 64 c) = (mF M 64 c) ∧ (mF A' 813 (342 + 4 * k)) = (mF A 813 (342 + 4 * k)) ∧ (mF M' 72 c) = (mF M 72 c)) ∧ (tk = 1 → (mF A' 768 (342 + 4 * k)) = nI (est (v 0)) ∧ (mF M' 64 c) = nI (est (v 0)) ∧ ((v 0) = 4 → (mF A' 813 (342 + 4 * k)) = nI nw ∧ (mF M' 72 c) = nI nw + 60000)) ∧
      RT (mF A 803 (342 + 4 * k)) hd' (mA A' (345 + 4 * k)) (mA A' (344 + 4 * k)) (mA M' (c + 4)) (mA M' (c + 3)) ∧ (hd' < 4096 → mA A' (345 + 4 * k) hd' = 0) ∧ (tk = 0 → (mF A' 808 (342 + 4 * k)) ≠ 0 → (mF A' 804 (342 + 4 * k)) ≠ (mF A' 810 (342 + 4 * k))) := fun e1 e2 e3 =>
    ⟨A5, N3, hd', 0, runA.trans e1, by rw [runX, e2, b2_some, if_pos rfl], m4, by decide, sS, sG, sB, aA5, s3, g3, r3, aN3, fun f a hh => F5 f a (fun e => hh ⟨by omega, e.2⟩), fun f a h1 h2 => X3 f a (fun e => h1 ⟨by omega, e.2⟩) (fun e => h2 ⟨by omega, e.2⟩), z804, nxE, owE, fkE, fqE, v8, w8, laE.1, laE.2, fun _ => ⟨F5 _ _ (by omega), X3 _ _ (by omega) (by omega), F5 _ _ (by omega), X3 _ _ (by omega) (by omega)⟩, fun e => absurd e (by decide), hRT, hstp, fun _ => e3⟩
  by_cases y1 : (mF A5 808 (342 + 4 * k)) = 0
  · refine notk ?_ ?_ (fun e => absurd y1 e)
    · unfold fX16_arrived_L246
      rw [gI_ok hA5, ob_some, if_pos y1]
    · rw [L63, if_pos (fkE.symm.trans y1)]
  · have y1' : ¬ (mF N3 7 (c + 2)) = 0 := fun e => y1 (fkE.trans e)
    by_cases y2 : (mF A5 804 (342 + 4 * k)) = (mF A5 810 (342 + 4 * k))
    · have y2' : (mF N3 1 (c + 2)) = (mF N3 9 (c + 2)) := by rw [nxE, ← z804, y2, fqE y1]
      rw [if_neg y1', if_pos y2'] at L63
      -- then something is owed in both
      have how : ¬ (dl = 0 ∧ ((mF A 1060 323) &&& 1) = 0) := fun e => by
        obtain ⟨e1, e2⟩ := e
        have pf : ¬ p = true := fun hh => (hp.mp hh).1 e2
        have hq4 := q4
        rw [if_neg pf] at q3 q4
        have hd0 : hd' = hd := by
          by_cases hh : hd = 4096
          · omega
          · apply m11
            rw [l6 e1, a02.2.2.2.1]
            exact hr.stp rfl (by omega)
        have := hr.fnx rfl (by rw [← q3]; exact y1)
        apply this
        rw [← q4, ← y2, z804, hd0]
        exact enx
      have ow1 : (mF N3 4 (c + 2)) = 1 := by rw [w4, if_neg how]
      have z1 : (mF A 803 (342 + 4 * k)) + nI hd' + 1 = (mF A 803 (342 + 4 * k)) + nI (hd' + 1) := by rw [Int32.add_assoc, nI_1]
      have stA5 : (mF A5 768 (342 + 4 * k)) = (mF A 768 (342 + 4 * k)) := F5 _ _ (by omega)
      have stN3 : (mF N3 64 c) = (mF A 768 (342 + 4 * k)) := by rw [X3 _ _ (by omega) (by omega)]; exact hE.st.symm
      obtain ⟨A7, u1, u2, u3, u4, u5⟩ : ∃ A7, fX16_arrived_L246 fu 323 (some (342 + 4 * k)) A5 = some A7 ∧ FF (fun f => f = 768 ∨ f = 804 ∨ f = 807 ∨ f = 809 ∨ f = 813) (342 + 4 * k) A5 A7 ∧ ((mF A7 804 (342 + 4 * k)) = (mF A 803 (342 + 4 * k)) + nI (hd' + 1) ∧ (mF A7 807 (342 + 4 * k)) = 1 ∧ (mF A7 809 (342 + 4 * k)) = 1) ∧ (mF A7 768 (342 + 4 * k)) = nI (est (v 0)) ∧ ((v 0) = 4 → (mF A7 813 (342 + 4 * k)) = nI nw) := by
        unfold fX16_arrived_L246 fX16_arrived_L323
        have k1 : ∀ x, okA (sF A5 809 (342 + 4 * k) x) 12 (342 + 4 * k) := fun _ => hA5
        have k2 : ∀ x y, okA (sF (sF A5 809 (342 + 4 * k) x) 804 (342 + 4 * k) y) 12 (342 + 4 * k) := fun _ _ => hA5
        have k3 : ∀ x y z, okA (sF (sF (sF A5 809 (342 + 4 * k) x) 804 (342 + 4 * k) y) 807 (342 + 4 * k) z) 12 (342 + 4 * k) := fun _ _ _ => hA5
        have k4 : ∀ x y z u, okA (sF (sF (sF (sF A5 809 (342 + 4 * k) x) 804 (342 + 4 * k) y) 807 (342 + 4 * k) z) 768 (342 + 4 * k) u) 16 323 := fun _ _ _ _ => rw_ok323 hR5
        have k5 : ∀ x y z u, okA (sF (sF (sF (sF A5 809 (342 + 4 * k) x) 804 (342 + 4 * k) y) 807 (342 + 4 * k) z) 768 (342 + 4 * k) u) 12 (342 + 4 * k) := fun _ _ _ _ => hA5
        have e9 : ∀ x, mF (sF A5 809 (342 + 4 * k) x) 804 (342 + 4 * k) = (mF A 803 (342 + 4 * k)) + nI hd' := fun x => by rw [mF_sF, if_neg (by omega)]; exact z804
        have e10 : ∀ x y z, mF (sF (sF (sF A5 809 (342 + 4 * k) x) 804 (342 + 4 * k) y) 807 (342 + 4 * k) z) 768 (342 + 4 * k) = (mF A 768 (342 + 4 * k)) := fun x y z => by rw [mF_sF, if_neg (by omega), mF_sF, if_neg (by omega), mF_sF, if_neg (by omega)]; exact stA5
        have e11 : ∀ x y z u, mF (sF (sF (sF (sF A5 809 (342 + 4 * k) x) 804 (342 + 4 * k) y) 807 (342 + 4 * k) z) 768 (342 + 4 * k) u) 1034 323 = nI nw := fun x y z u => by
          rw [mF_sF, if_neg (by omega), mF_sF, if_neg (by omega), mF_sF, if_neg (by omega), mF_sF, if_neg (by omega), F5 _ _ (by omega)]; exact h.nw
        rw [gI_ok hA5, ob_some, if_neg y1, gI_ok hA5, ob_some, v8, if_pos rfl, gI_ok hA5, ob_some, gI_ok hA5, ob_some, if_pos y2, pZ_ok hA5 (Or.inr rfl), ob_some, gI_ok (k1 _), ob_some, e9, z1, pF_ok (k1 _), ob_some, pZ_ok (k2 _ _) (Or.inr rfl), ob_some, gI_ok (k3 _ _ _), ob_some, e10]
        have ff : ∀ z, FF (fun f => f = 768 ∨ f = 804 ∨ f = 807 ∨ f = 809 ∨ f = 813) (342 + 4 * k) A5 (sF (sF (sF (sF A5 809 (342 + 4 * k) 1) 804 (342 + 4 * k) ((mF A 803 (342 + 4 * k)) + nI (hd' + 1))) 807 (342 + 4 * k) 1) 768 (342 + 4 * k) z) := fun z => (((FF.s _ (by omega)).tr (FF.s _ (by omega))).tr (FF.s _ (by omega))).tr (FF.s _ (by omega))
        rcases hst with q | q | q
        · rw [if_pos (st2.mpr q), pF_ok (k3 _ _ _), ob_some]
          exact ⟨_, rfl, ff _, ⟨by simp only [mF_sF, reduceIte, Nat.reduceEqDiff, Nat.reduceAdd, Nat.reduceMul, Nat.reduceLT, Nat.reduceLeDiff, and_true, true_and, and_false, false_and, and_self, ne_eq, not_true_eq_false, not_false_eq_true, Option.some.injEq, reduceCtorEq], by simp only [mF_sF, reduceIte, Nat.reduceEqDiff, Nat.reduceAdd, Nat.reduceMul, Nat.reduceLT, Nat.reduceLeDiff, and_true, true_and, and_false, false_and, and_self, ne_eq, not_true_eq_false, not_false_eq_true, Option.some.injEq, reduceCtorEq], by simp only [mF_sF, reduceIte, Nat.reduceEqDiff, Nat.reduceAdd, Nat.reduceMul, Nat.reduceLT, Nat.reduceLeDiff, and_true, true_and, and_false, false_and, and_self, ne_eq, not_true_eq_false, not_false_eq_true, Option.some.injEq, reduceCtorEq]⟩, by rw [mF_sF, if_pos ⟨rfl, rfl⟩, q]; rfl, fun e => by omega⟩
        · rw [if_neg (fun e => by have := st2.mp e; omega), ob_some, if_pos (st3.mpr q), pF_ok (k3 _ _ _), ob_some, gI_ok (k4 _ _ _ _), ob_some, e11, pF_ok (k5 _ _ _ _), ob_some]
          exact ⟨_, rfl, (ff _).tr (FF.s _ (by omega)), ⟨by simp only [mF_sF, reduceIte, Nat.reduceEqDiff, Nat.reduceAdd, Nat.reduceMul, Nat.reduceLT, Nat.reduceLeDiff, and_true, true_and, and_false, false_and, and_self, ne_eq, not_true_eq_false, not_false_eq_true, Option.some.injEq, reduceCtorEq], by simp only [mF_sF, reduceIte, Nat.reduceEqDiff, Nat.reduceAdd, Nat.reduceMul, Nat.reduceLT, Nat.reduceLeDiff, and_true, true_and, and_false, false_and, and_self, ne_eq, not_true_eq_false, not_false_eq_true, Option.some.injEq, reduceCtorEq], by simp only [mF_sF, reduceIte, Nat.reduceEqDiff, Nat.reduceAdd, Nat.reduceMul, Nat.reduceLT, Nat.reduceLeDiff, and_true, true_and, and_false, false_and, and_self, ne_eq, not_true_eq_false, not_false_eq_true, Option.some.injEq, reduceCtorEq]⟩, by rw [mF_sF, if_neg (by omega), mF_sF, if_pos ⟨rfl, rfl⟩, q]; rfl, fun e => by omega⟩
        · rw [if_neg (fun e => by have := st2.mp e; omega), ob_some, if_neg (fun e => by have := st3.mp e; omega), pF_ok (k3 _ _ _), ob_some, gI_ok (k4 _ _ _ _), ob_some, e11, pF_ok (k5 _ _ _ _), ob_some]
          exact ⟨_, rfl, (ff _).tr (FF.s _ (by omega)), ⟨by simp only [mF_sF, reduceIte, Nat.reduceEqDiff, Nat.reduceAdd, Nat.reduceMul, Nat.reduceLT, Nat.reduceLeDiff, and_true, true_and, and_false, false_and, and_self, ne_eq, not_true_eq_false, not_false_eq_true, Option.some.injEq, reduceCtorEq], by simp only [mF_sF, reduceIte, Nat.reduceEqDiff, Nat.reduceAdd, Nat.reduceMul, Nat.reduceLT, Nat.reduceLeDiff, and_true, true_and, and_false, false_and, and_self, ne_eq, not_true_eq_false, not_false_eq_true, Option.some.injEq, reduceCtorEq], by simp only [mF_sF, reduceIte, Nat.reduceEqDiff, Nat.reduceAdd, Nat.reduceMul, Nat.reduceLT, Nat.reduceLeDiff, and_true, true_and, and_false, false_and, and_self, ne_eq, not_true_eq_false, not_false_eq_true, Option.some.injEq, reduceCtorEq]⟩, by rw [mF_sF, if_neg (by omega), mF_sF, if_pos ⟨rfl, rfl⟩, q]; rfl, fun _ => by rw [mF_sF, if_pos ⟨rfl, rfl⟩]⟩
      obtain ⟨N5, t1, t2, t3, t4, t5, t6, t7, t8⟩ : ∃ N5, fX9_takeData fu 317 (some c) M = some N5 ∧ (mS N5 = mS N3 ∧ mG N5 = mG N3 ∧ mB N5 = mB N3 ∧ mA N5 = mA N3) ∧ (∀ f a, ¬ ((f = 64 ∨ f = 72) ∧ a = c) → ¬ ((f = 1 ∨ f = 8) ∧ a = c + 2) → mF N5 f a = mF N3 f a) ∧ (mF N5 1 (c + 2)) = (mF A 803 (342 + 4 * k)) + nI (hd' + 1) ∧ (mF N5 8 (c + 2)) = 1 ∧ (mF N5 64 c) = nI (est (v 0)) ∧ ((v 0) = 4 → (mF N5 72 c) = nI nw + 60000) ∧ True := by
        rw [runX, L63, b2_some, if_neg one0, nxE, z1]
        generalize hN4 : sF (sF N3 1 (c + 2) ((mF A 803 (342 + 4 * k)) + nI (hd' + 1))) 8 (c + 2) 1 = N4
        have hW4 : XW N4 := by subst hN4; exact hW3
        have o4 : okA N4 1 c := by subst hN4; exact x1c
        have b4 : (mF N4 641 304) = nI nw := by
          have n4 := ok_ne (xw_ok304 hW) c7 (by decide)
          subst hN4
          rw [mF_sF, if_neg (fun e => n4 e.2), mF_sF, if_neg (fun e => n4 e.2), X3 _ _ (by omega) (by omega)]; exact h.wnow
        have s4 : (mF N4 64 c) = (mF A 768 (342 + 4 * k)) := by subst hN4; rw [mF_sF, if_neg (by omega), mF_sF, if_neg (by omega)]; exact stN3
        have e1 : mF N4 1 (c + 2) = (mF A 803 (342 + 4 * k)) + nI (hd' + 1) := by subst hN4; simp only [mF_sF, reduceIte, Nat.reduceEqDiff, Nat.reduceAdd, Nat.reduceMul, Nat.reduceLT, Nat.reduceLeDiff, and_true, true_and, and_false, false_and, and_self, ne_eq, not_true_eq_false, not_false_eq_true, Option.some.injEq, reduceCtorEq]
        have e8 : mF N4 8 (c + 2) = 1 := by subst hN4; simp only [mF_sF, reduceIte, Nat.reduceEqDiff, Nat.reduceAdd, Nat.reduceMul, Nat.reduceLT, Nat.reduceLeDiff, and_true, true_and, and_false, false_and, and_self, ne_eq, not_true_eq_false, not_false_eq_true, Option.some.injEq, reduceCtorEq]
        have f4 : ∀ f a, ¬ ((f = 1 ∨ f = 8) ∧ a = c + 2) → mF N4 f a = mF N3 f a := fun f a hh => by subst hN4; rw [mF_sF, if_neg (fun e => hh ⟨Or.inr e.1, e.2⟩), mF_sF, if_neg (fun e => hh ⟨Or.inl e.1, e.2⟩)]
        have g4 : mS N4 = mS N3 ∧ mG N4 = mG N3 ∧ mB N4 = mB N3 ∧ mA N4 = mA N3 := by subst hN4; exact ⟨rfl, rfl, rfl, rfl⟩
        rw [gR_ok (xw_ok317 hW4), ob_some, xw_g576_317 hW4, gI_ok (xw_ok304 hW4), ob_some, b4, rc_ok o4, ob_some]
        unfold fX1_otherSideEnds fX1_linger
        rw [gI_ok o4, ob_some, s4]
        rcases hst with q | q | q
        · rw [if_pos (st2.mpr q), pF_ok o4, ob_some, ob_some]
          refine ⟨_, rfl, g4, fun f a h1 h2 => ?_, ?_, ?_, ?_, fun e => by omega, trivial⟩
          · rw [mF_sF, if_neg (fun e => h1 ⟨Or.inl e.1, e.2⟩)]; exact f4 f a h2
          · rw [mF_sF, if_neg (by omega)]; exact e1
          · rw [mF_sF, if_neg (by omega)]; exact e8
          · rw [mF_sF, if_pos ⟨rfl, rfl⟩, q]; rfl
        · rw [if_neg (fun e => by have := st2.mp e; omega), ob_some, if_pos (st3.mpr q), pF_ok o4, ob_some, ob_some]
          refine ⟨_, rfl, g4, fun f a h1 h2 => ?_, ?_, ?_, ?_, fun e => by omega, trivial⟩
          · rw [mF_sF, if_neg (fun e => h1 ⟨Or.inl e.1, e.2⟩)]; exact f4 f a h2
          · rw [mF_sF, if_neg (by omega)]; exact e1
          · rw [mF_sF, if_neg (by omega)]; exact e8
          · rw [mF_sF, if_pos ⟨rfl, rfl⟩, q]; rfl
        · rw [if_neg (fun e => by have := st2.mp e; omega), ob_some, if_neg (fun e => by have := st3.mp e; omega), ob_some, if_pos (st4.mpr q), rc_ok o4, ob_some, pF_ok o4, ob_some, pF_ok (by rw [ok_sF]; exact o4), ob_some, ob_some, ob_some]
          refine ⟨_, rfl, g4, fun f a h1 h2 => ?_, ?_, ?_, ?_, fun _ => ?_, trivial⟩
          · rw [mF_sF, if_neg (fun e => h1 ⟨Or.inr e.1, e.2⟩), mF_sF, if_neg (fun e => h1 ⟨Or.inl e.1, e.2⟩)]; exact f4 f a h2
          · rw [mF_sF, if_neg (by omega), mF_sF, if_neg (by omega)]; exact e1
          · rw [mF_sF, if_neg (by omega), mF_sF, if_neg (by omega)]; exact e8
          · rw [mF_sF, if_neg (by omega), mF_sF, if_pos ⟨rfl, rfl⟩, q]; rfl
          · rw [mF_sF, if_pos ⟨rfl, rfl⟩]
      have U : ∀ f a, ¬ ((f = 768 ∨ f = 804 ∨ f = 807 ∨ f = 809 ∨ f = 813) ∧ a = 342 + 4 * k) → mF A7 f a = mF A5 f a := u2.2.2.2.2
      refine ⟨A7, N5, hd', 1, runA.trans u1, t1, m4, by decide, u2.1.trans sS, u2.2.1.trans sG, u2.2.2.1.trans sB, fun a h1 h2 => by rw [u2.2.2.2.1]; exact aA5 a h1 h2, t2.1.trans s3, t2.2.1.trans g3, t2.2.2.1.trans r3, fun a h1 h2 => by rw [t2.2.2.2]; exact aN3 a h1 h2, fun f a hh => (U f a (fun e => hh ⟨by omega, e.2⟩)).trans (F5 f a (fun e => hh ⟨by omega, e.2⟩)), fun f a h1 h2 => (t3 f a (fun e => h1 ⟨by omega, e.2⟩) (fun e => h2 ⟨by omega, e.2⟩)).trans (X3 f a (fun e => h1 ⟨by omega, e.2⟩) (fun e => h2 ⟨by omega, e.2⟩)), u3.1, t4, ?_, ?_, ?_, u3.2.2, t5, ?_, ?_, fun e => absurd e (by decide), fun _ => ⟨u4, t6, fun e => ⟨u5 e, t7 e⟩⟩, ?_, ?_, fun e => absurd e (by decide)⟩
      · rw [u3.2.1, t3 _ _ (by omega) (by omega), ow1]
      · rw [U _ _ (by omega), t3 _ _ (by omega) (by omega)]; exact fkE
      · rw [U _ _ (by omega), U _ _ (by omega), t3 _ _ (by omega) (by omega)]; exact fqE
      · rw [U _ _ (by omega), t3 _ _ (by omega) (by omega)]; exact laE.1
      · rw [U _ _ (by omega)]; exact laE.2
      · rw [u2.2.2.2.1, t2.2.2.2]; exact hRT
      · rw [u2.2.2.2.1]; exact hstp
    · refine notk ?_ ?_ (fun _ => y2)
      · unfold fX16_arrived_L246
        rw [gI_ok hA5, ob_some, if_neg y1, gI_ok hA5, ob_some, v8, if_pos rfl, gI_ok hA5, ob_some, gI_ok hA5, ob_some, if_neg y2]
      · rw [L63, if_neg y1', if_neg (fun e => y2 (by rw [z804, ← nxE, e, fqE y1]))]
end Come3
