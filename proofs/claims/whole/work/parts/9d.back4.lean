/-! ===== part 9d: a timer runs out for the last time, in both ===== -/
section Back4
variable {A M A' M' : Mm}
theorem sp_backG (fu : Nat) (hfu : 4000 ≤ fu) {KN KS t T k c nw im ig hd ft x : Nat} {b0 : Int32} {v : Nat → Nat} (h : TK A M KN KS t T im ig k c nw hd ft b0 v) (hk : k < 16) (hx : (mF A 791 (342 + 4 * k)) = nI x) (hx8 : x ≤ 8) (hlim : ((v 0) = 1 ∧ 5 < x + 1) ∨ ((v 0) ≠ 1 ∧ 8 < x + 1)) (hT2 : T < 2 ^ 30) :
    ∃ A' M' T', fX16_runOut fu 323 (some (342 + 4 * k)) A = some A' ∧ fX9_runOut fu 317 (some c) M = some M' ∧ T ≤ T' ∧ T' ≤ T + 1 ∧ TD A' M' KN KS t T' im ig k c nw ∧ FCA k A A' ∧ FCM c M M' ∧ (∀ g, g = 769 ∨ g = 770 → mF A' g (342 + 4 * k) = mF A g (342 + 4 * k)) ∧ mA A' 330 5 = mA A 330 5 := by
  have hR := h.rw'
  have hW := h.xw
  have hA := rw_cnO hR k hk
  have hC := h.cn
  obtain ⟨c1, c2, c3, c4, c5, c6, c7, c8, c9, c10, c11, c12, c13, c14⟩ := hC
  have hC := h.cn
  have hE := h.ce
  have hP := h.cp
  have hI := h.ci
  have hS := h.cs
  have hr := h.cr
  have s11 := hS.st1
  have ex : (nI x : Int32) + 1 = nI (x + 1) := nI_1 x
  have b4 := ok_ne c10 (xw_ok304 hW) (by decide)
  -- what is noted
  generalize hB1 : sF (sF A 789 (342 + 4 * k) 0) 791 (342 + 4 * k) (nI (x + 1)) = B1
  have fB1 : FF (fun g => g = 789 ∨ g = 791) (342 + 4 * k) A B1 := by subst hB1; exact (FF.s _ (by omega)).tr (FF.s _ (by omega))
  generalize hN1 : sF M 325 (c + 5) (nI (x + 1)) = N1
  have fN1 : FF (fun g => g = 325) (c + 5) M N1 := by subst hN1; exact FF.s _ rfl
  have hRB := fB1.rW hR
  have hWN := fN1.xW hW
  have cntA := m_cnt hRB (i := 2) (by decide)
  have cntM := x_cnt hWN (i := 2) (by decide)
  generalize hB2 : wA B1 330 (cnU (mA B1 330) 2) = B2 at cntA
  generalize hN2 : wA N1 305 (cnU (mA N1 305) 2) = N2 at cntM
  have fB2 : FCA k B1 B2 := by subst hB2; exact FCA_330 _
  have fN2 : FCM c N1 N2 := by subst hN2; exact FCM_305 _
  have eB2 : mF B2 = mF B1 := by subst hB2; rfl
  have eN2 : mF N2 = mF N1 := by subst hN2; rfl
  have hRB2 : RW B2 := by subst hB2; exact hRB
  have hWN2 : XW N2 := by subst hN2; exact hWN
  have hCN2 : CnO N2 c := by subst hN2; exact fN1.cN hC
  have FB : ∀ g, ¬ (g = 789 ∨ g = 791) → mF B2 g (342 + 4 * k) = mF A g (342 + 4 * k) := fun g hg => by rw [eB2]; exact fB1.2.2.2.2 g _ (fun e => hg e.1)
  have FN : ∀ g o, o ≠ c + 5 → mF N2 g o = mF M g o := fun g o ho => by rw [eN2]; exact fN1.2.2.2.2 g _ (fun e => ho e.2)
  have aB2 : ∀ a, a ≠ 330 → mA B2 a = mA A a := fun a ha => by subst hB2; rw [mA_wA_ne ha, fB1.2.2.2.1]
  have aN2 : ∀ a, a ≠ 305 → mA N2 a = mA M a := fun a ha => by subst hN2; rw [mA_wA_ne ha, fN1.2.2.2.1]
  have jn2 : JN B2 N2 := by
    subst hB2 hN2
    refine JN_cnU (fun i hi => ?_) (by decide)
    rw [fB1.2.2.2.1, fN1.2.2.2.1]; exact h.jn i hi
  have h5 : mA B2 330 5 = mA A 330 5 := by
    subst hB2
    rw [mA_wA_self]
    show (if 5 = 2 then mA B1 330 2 + 1 else mA B1 330 5) = _
    rw [if_neg (by decide), fB1.2.2.2.1]
  have jl2 : JL0 KN KS t T B2 N2 := by
    refine JL0_cn h.jl hC ?_ ?_ ?_ (fun f a hf => ?_) (fun a ha => aB2 a (by omega)) ?_ ?_ ?_ (fun f a n1 n2 n3 _ => FN f a n3) (fun a _ _ _ n5 _ _ _ => aN2 a n5)
    · subst hB2; exact fB1.1
    · subst hB2; exact fB1.2.1
    · subst hB2; exact fB1.2.2.1
    · rw [eB2]; exact fB1.2.2.2.2 f a (fun e => by unfold JLf at hf; omega)
    · subst hN2; exact fN1.1
    · subst hN2; exact fN1.2.1
    · subst hN2; exact fN1.2.2.1
  have hBy : By B2 := fun a i ha => by
    have ha' : sTy (mS A) a = 100 := by
      have : mS B2 = mS A := by subst hB2; exact fB1.1
      rw [this] at ha; exact ha
    have : a ≠ 330 := fun e => by
      rw [e] at ha'
      exact absurd ((rw_ok330 hR).2.2.symm.trans ha') (by decide)
    rw [aB2 a this]; exact h.ba.2.2.2.2 a i ha'
  have hst0 : mF N2 64 c ≠ 0 := by
    rw [FN 64 c (by omega), ← hE.st, hS.st]
    exact nI_ne0 (by omega) (by omega)
  have e4 : hldA B2 k = hldX N2 c := by
    unfold hldA hldX
    rw [FB 804 (by omega), FB 803 (by omega), FB 809 (by omega), FN 1 _ (by omega), FN 0 _ (by omega), FN 8 _ (by omega), hr.nx, hr.rd, hr.fT]
  obtain ⟨A2, M2, T', r1, r2, r3, r4, r5, r6, r7⟩ := sp_sendPlain fu (by omega) jl2 hBy hT2 hCN2 hk (by rw [FB 769 (by omega), FN 65 c (by omega)]; exact hE.ip) (by rw [FB 770 (by omega), FN 66 c (by omega)]; exact hE.po) (by rw [FB 804 (by omega), FN 1 _ (by omega)]; exact hr.nx) e4 (fl := 20) (by decide) (by decide) (by decide) hst0 (mF B2 773 (342 + 4 * k))
  have pay : payX N2 c (nI 20) = N2 := by unfold payX; rw [if_neg (by decide)]
  rw [pay] at r7
  have hRA2 := r5.1
  have hA2 := rw_cnO hRA2 k hk
  have hCM2 : CnO M2 c := CnO_fr r7.gen hCN2
  generalize hA3 : sF (sF A2 768 (342 + 4 * k) 0) 789 (342 + 4 * k) 0 = A3
  generalize hM3 : sF (sF M2 64 c 0) 324 (c + 5) 2147483647 = M3
  have fA3 : FF (fun g => g = 768 ∨ g = 789) (342 + 4 * k) A2 A3 := by subst hA3; exact (FF.s _ (by omega)).tr (FF.s _ (by omega))
  have m3 : mS M3 = mS M2 ∧ mG M3 = mG M2 ∧ mB M3 = mB M2 ∧ mA M3 = mA M2 ∧ (∀ f a, a ≠ c → a ≠ c + 5 → mF M3 f a = mF M2 f a) := by
    subst hM3
    exact ⟨rfl, rfl, rfl, rfl, fun f a n1 n2 => by rw [mF_sF, if_neg (fun e => n2 e.2), mF_sF, if_neg (fun e => n1 e.2)]⟩
  have fM3 : FCM c M2 M3 := ⟨by rw [m3.1]; exact Nat.le_refl _, fun a _ => by rw [m3.1]; exact ⟨rfl, rfl⟩, fun f a _ _ => by rw [m3.2.1], fun a _ _ => by rw [m3.2.2.1], fun f a _ n => m3.2.2.2.2 f a (fun e => n (by unfold PCx; omega)) (fun e => n (by unfold PCx; omega)), fun a _ _ => by rw [m3.2.2.2.1]⟩
  have gone : fX16_gone fu 323 (some (342 + 4 * k)) A2 = some A3 := by
    unfold fX16_gone
    rw [pF_ok hA2, ob_some, pZ_ok (by rw [ok_sF]; exact hA2) (Or.inl rfl), ob_some, hA3]
  have leave : fX1_leave fu c M2 = some M3 := by
    unfold fX1_leave
    rw [pF_ok hCM2.1, ob_some, gR_ok (by rw [ok_sF]; exact hCM2.1), ob_some, mG_sF, hCM2.2.2.2.1, pF_ok (by rw [ok_sF]; exact hCM2.2.2.2.2.2.2.2.2.2.2.2.2.2), ob_some, hM3]
  have fA : FCA k A A3 := ((fB1.ca (by intro f hf; omega)).tr fB2).tr (r6.ca.tr (fA3.ca (by intro f hf; omega)))
  have fM : FCM c M M3 := ((fN1.cm (Or.inr (Or.inr rfl))).tr fN2).tr (r7.cm.tr fM3)
  have runA : fX16_runOut fu 323 (some (342 + 4 * k)) A = some A3 := by
    have x91 : mF B1 791 (342 + 4 * k) = nI (x + 1) := by subst hB1; simp only [mF_sF, reduceIte, Nat.reduceEqDiff, Nat.reduceAdd, Nat.reduceMul, Nat.reduceLT, Nat.reduceLeDiff, and_true, true_and, and_false, false_and, and_self, ne_eq, not_true_eq_false, not_false_eq_true, Option.some.injEq, reduceCtorEq]
    have x68 : mF B1 768 (342 + 4 * k) = nI (v 0) := (fB1.2.2.2.2 768 _ (by omega)).trans hS.st
    have hAB := rw_cnO hRB k hk
    have hAB2 := rw_cnO hRB2 k hk
    have l33 : ∀ s1 : Int32, ¬ (nI (x + 1) : Int32) ≤ s1 → fX16_runOut_L33 fu 323 (some (342 + 4 * k)) (nI (x + 1)) s1 B1 = some A3 := fun s1 hs1 => by
      unfold fX16_runOut_L33
      rw [if_neg hs1, gR_ok (rw_ok323 hRB), ob_some, rw_g1041_323 hRB, show gA B1 101 (some 330) (2 : Int32) = some (mA B1 330 2) from cntA.1, ob_some, show pA B1 101 (some 330) (2 : Int32) (mA B1 330 2 + 1) = some B2 from cntA.2, ob_some, gI_ok hAB2, ob_some, gI_ok hAB2, ob_some, gI_ok hAB2, ob_some, gI_ok hAB2, ob_some, rc_ok hAB2, ob_some, m_open hRB2 hk, b2_some, rc_ok (rw_ok323 hRB2), ob_some]
      have r1' : fX16_segmentOut fu 323 (mF B2 769 (342 + 4 * k)) 80 (mF B2 770 (342 + 4 * k)) (mF B2 773 (342 + 4 * k)) (mF B2 804 (342 + 4 * k)) 20 ((4096 : Int32) - hldA B2 k) 0 0 B2 = some A2 := r1
      rw [r1', ob_some, rc_ok (rw_ok323 hRA2), ob_some, gone, ob_some]
    unfold fX16_runOut
    rw [pZ_ok hA (Or.inl rfl), ob_some, gI_ok (by rw [ok_sF]; exact hA), ob_some, mF_sF, if_neg (by omega), hx, ex, pF_ok (by rw [ok_sF]; exact hA), ob_some, hB1, gI_ok hAB, ob_some, x91, gI_ok hAB, ob_some, x68]
    rcases hlim with ⟨q1, q2⟩ | ⟨q1, q2⟩
    · rw [if_pos (show (nI (v 0) : Int32) = (1 : Int32) by rw [q1]; rfl)]
      exact l33 5 (nI_ge (a := 5) q2 (by omega))
    · rw [if_neg (show ¬ (nI (v 0) : Int32) = (1 : Int32) from fun z => q1 ((nI_eq (b := 1) (by omega) (by decide)).mp z))]
      exact l33 8 (nI_ge (a := 8) q2 (by omega))
  have runX : fX9_runOut fu 317 (some c) M = some M3 := by
    have x25 : mF M 325 (c + 5) = nI x := hP.tr.symm.trans hx
    have n25 : mF N1 325 (c + 5) = nI (x + 1) := by subst hN1; simp only [mF_sF, reduceIte, Nat.reduceEqDiff, Nat.reduceAdd, Nat.reduceMul, Nat.reduceLT, Nat.reduceLeDiff, and_true, true_and, and_false, false_and, and_self, ne_eq, not_true_eq_false, not_false_eq_true, Option.some.injEq, reduceCtorEq]
    have hCN1 := fN1.cN hC
    have l44 : ∀ a2 s1 : Int32, ¬ (nI (x + 1) : Int32) ≤ s1 → fX9_runOut_L44 fu 317 (some c) a2 (nI (x + 1)) s1 N1 = some M3 := fun a2 s1 hs1 => by
      unfold fX9_runOut_L44
      rw [if_neg hs1, gR_ok (xw_ok317 hWN), ob_some, xw_g576_317 hWN, gR_ok (xw_ok304 hWN), ob_some, xw_g640_304 hWN, show gA N1 101 (some 305) (2 : Int32) = some (mA N1 305 2) from cntM.1, ob_some, show pA N1 101 (some 305) (2 : Int32) (mA N1 305 2 + 1) = some N2 from cntM.2, ob_some, gI_ok hCN2.1, ob_some, rc_ok (xw_ok317 hWN2), ob_some]
      have r2' : fX9_sendPlain fu 317 (some c) (mF N2 69 c) 20 N2 = some M2 := by
        rw [show mF N2 69 c = mF B2 773 (342 + 4 * k) from by rw [FN 69 c (by omega), FB 773 (by omega)]; exact hE.at'.symm]
        exact r2
      rw [r2', ob_some, rc_ok hCM2.1, ob_some, leave, ob_some]
    have l13 : ∀ s0 : Int32, fX9_runOut_L13 fu 317 (some c) s0 M = if s0 = 0 then fX9_runOut_L44 fu 317 (some c) s0 (nI (x + 1)) 8 N1 else fX9_runOut_L44 fu 317 (some c) s0 (nI (x + 1)) 5 N1 := fun s0 => by
      unfold fX9_runOut_L13
      rw [gR_ok c1, ob_some, c4, gI_ok c14, ob_some, x25, ex, pF_ok c14, ob_some, hN1, gR_ok hCN1.1, ob_some, hCN1.2.2.2.1, gI_ok (fN1.ok c14), ob_some, n25]
    unfold fX9_runOut
    rw [gI_ok c1, ob_some, ← hE.st, hS.st]
    rcases hlim with ⟨q1, q2⟩ | ⟨q1, q2⟩
    · rw [if_pos (show (nI (v 0) : Int32) = (1 : Int32) by rw [q1]; rfl), l13, if_neg (by decide)]
      exact l44 1 5 (nI_ge (a := 5) q2 (by omega))
    · rw [if_neg (show ¬ (nI (v 0) : Int32) = (1 : Int32) from fun z => q1 ((nI_eq (b := 1) (by omega) (by decide)).mp z)), l13, if_pos rfl]
      exact l44 0 8 (nI_ge (a := 8) q2 (by omega))
  refine ⟨A3, M3, T', runA, runX, r3, r4, ?_, fA, fM, fun g hg => ?_, ?_⟩
  · refine TD.mk ?_ ?_ ?_ ?_ (JI_fc hW hC fA fM h.ji) (CnO_fr fM hC) ?_ ?_ ?_ h.n2
    · exact JL0_cn r5 hCM2 fA3.1 fA3.2.1 fA3.2.2.1 (fun f a hf => fA3.2.2.2.2 f a (fun e => by unfold JLf at hf; omega)) (fun a _ => by rw [fA3.2.2.2.1]) m3.1 m3.2.1 m3.2.2.1 (fun f a n1 _ n3 _ => m3.2.2.2.2 f a n1 n3) (fun a _ _ _ _ _ _ _ => by rw [m3.2.2.2.1])
    · exact (oX16_runOut fu 323 _ A h.ba (by unfold RM; omega) (inR_some (by unfold RM; omega)) runA).2
    · exact (oX9_runOut fu 317 _ M h.bm (by unfold RX; omega) (inR_some (h.bm.1 c 1 c1 (by unfold TX; omega))) runX).2
    · intro i hi
      have lt := (xw_ok305 hWN2).2.1
      have e305 := r7.gen.2.2.2.2.2 305 lt (by unfold QLx; rw [(xw_ok304 hWN2).2.2]; omega)
      rw [fA3.2.2.2.1, r6.2.2.2.2.2.1 330 (by omega) (by omega), m3.2.2.2.1, e305]
      exact jn2 i hi
    · subst hA3; simp only [mF_sF, reduceIte, Nat.reduceEqDiff, Nat.reduceAdd, Nat.reduceMul, Nat.reduceLT, Nat.reduceLeDiff, and_true, true_and, and_false, false_and, and_self, ne_eq, not_true_eq_false, not_false_eq_true, Option.some.injEq, reduceCtorEq]
    · subst hM3; simp only [mF_sF, reduceIte, Nat.reduceEqDiff, Nat.reduceAdd, Nat.reduceMul, Nat.reduceLT, Nat.reduceLeDiff, and_true, true_and, and_false, false_and, and_self, ne_eq, not_true_eq_false, not_false_eq_true, Option.some.injEq, reduceCtorEq]
    · rw [fA.2.2.2.1 _ _ (by unfold PCa PL; omega)]; exact h.nw
  · rw [fA3.2.2.2.2 g _ (by omega), r6.2.2.2.1 g _ (by omega), FB g (by omega)]
  · rw [fA3.2.2.2.1, r6.2.2.2.2.2.1 330 (by omega) (by omega)]; exact h5
end Back4
