/-! ===== part 99f: a head is read, in both: lines, then the status ===== -/
section Read2
variable {A M A' M' : Mm} {H : Nat → Nat} {n : Nat}
theorem FF.fqA {S : Nat → Prop} (h : FF S 323 A A') (hS : ∀ f, S f → 1066 ≤ f) : FQA A A' := ⟨h.1, h.2.1, h.2.2.1, fun f a q => h.2.2.2.2 f a (fun e => q ⟨hS f e.1, e.2⟩), fun a _ _ => by rw [h.2.2.2.1]⟩
theorem FF.fqM {S : Nat → Prop} (h : FF S 319 A A') (hS : ∀ f, S f → 448 ≤ f ∧ f < 512) : FQM A A' := ⟨h.1, h.2.1, h.2.2.1, fun f a q => h.2.2.2.2 f a (fun e => q ⟨(hS f e.1).1, (hS f e.1).2, e.2⟩), fun a _ _ => by rw [h.2.2.2.1]⟩
/-- where the class finds nothing wrong, its body's length is right -/
theorem verdict_len (fu : Nat) (hW : XW M) {st : Nat} (h : fX7_verdict fu 319 M = some (nI st, M')) (h1 : st ≠ 400) (h2 : st ≠ 413) (h3 : st ≠ 501) (h4 : st < 1000) : ¬ (1 : Int32) < mF M 459 319 ∧ (0 : Int32) ≤ mF M 460 319 ∧ mF M 460 319 ≤ (65536 : Int32) := by
  have o := xw_ok319 hW
  have no : ∀ s, s < 1000 → st ≠ s → ∀ (X : Mm), some ((nI s : Int32), X) = some (nI st, M') → False := fun s hs hn X e => by
    have e1 := congrArg Prod.fst (Option.some.inj e)
    have e2 : (nI s : Int32) = nI st := e1
    exact hn ((nI_eq (by omega) (by omega)).mp e2).symm
  have key : fX7_verdict_L30 fu 319 M = some (nI st, M') := by
    unfold fX7_verdict at h
    simp only [gI_ok o, ob_some] at h
    split at h
    · split at h
      · exact h
      · exact (no 400 (by decide) h1 _ h).elim
    · split at h
      · exact h
      · exact (no 400 (by decide) h1 _ h).elim
  unfold fX7_verdict_L30 at key
  simp only [gI_ok o, ob_some] at key
  split at key
  · split at key
    · exact (no 400 (by decide) h1 _ key).elim
    · rename_i q
      split at key
      · rename_i q2
        split at key
        · rename_i q3
          exact ⟨q, q2, q3⟩
        · exact (no 413 (by decide) h2 _ key).elim
      · exact (no 400 (by decide) h1 _ key).elim
  · exact (no 501 (by decide) h3 _ key).elim
theorem PR_body {p st : Nat} (hp : PR A M p) (hp1 : p < 5000) (q1 : ¬ (1 : Int32) < mF M 459 319) (q2 : (0 : Int32) ≤ mF M 460 319) (q3 : mF M 460 319 ≤ (65536 : Int32)) : ∃ V, V ≤ 65536 ∧ (mF A 1075 323) = nI V ∧ (mF M 460 319) = nI V := by
  obtain ⟨x, x1, x2, x3, x4, x5⟩ := hp.le
  have hx : x ≤ 1 := by
    apply Nat.le_of_not_lt
    intro z
    apply q1
    rw [x3]
    exact nI_lt (a := 1) z (by omega)
  by_cases z : x = 0
  · obtain ⟨-, -, y3, y4⟩ := x4 z
    exact ⟨0, by omega, y3, y4⟩
  · rcases x5 (by omega) with ⟨-, y⟩ | ⟨-, V, v1, v2, v3⟩
    · rw [y] at q2
      exact absurd q2 (by decide)
    · rcases v3 with ⟨w1, -⟩ | ⟨w1, -, w3⟩
      · rw [v2] at q3
        exact absurd q3 (nI_ge (a := 65536) w1 (by omega))
      · exact ⟨V, w1, w3, v2⟩
/-- what both know when a head is read -/
def RD (F ek : Nat) (A M A' M' : Mm) (st r me : Nat) (a5 : Int32) : Prop := FQA A A' ∧ FQM M M' ∧ By A' ∧ By M' ∧ mF A' 1067 323 = nI st ∧ mF A' 1068 323 = nI (if me = 1 then 1 else 0) ∧ mF M' 453 319 = nI me ∧ me ≤ 2 ∧ (st = 200 ∨ st = 304 ∨ st = 400 ∨ st = 404 ∨ st = 405 ∨ st = 413 ∨ st = 500 ∨ st = 501) ∧ (st = 200 ∨ st = 304 → r < F ∧ mF M' 466 319 = nI r ∧ ∃ L P, 1 ≤ L ∧ L ≤ 47 ∧ PT A' M' L L P ∧ mtch M' ek L P r) ∧ (st ≠ 400 → a5 = 1 ∧ mF A' 1069 323 = mF M' 454 319 ∧ mF A' 1070 323 = mF M' 464 319 ∧ mF A' 1071 323 = mF M' 465 319) ∧ (st ≠ 400 → st ≠ 413 → st ≠ 501 → ∃ V, V ≤ 65536 ∧ mF A' 1075 323 = nI V ∧ mF M' 460 319 = nI V)
theorem sp_reads (fu : Nat) (hfu : 70000 ≤ fu) (c : Option Nat) {im ig F ek : Nat} (hR : RW A) (hB : By A) (hW : XW M) (hBM : By M) (h : HD H n A M) (hn : 1 ≤ n) (hl : H (n - 1) = 10) (n1 : H 0 ≠ 10) (n2 : 1 < n → ¬ (H 0 = 13 ∧ H 1 = 10)) (hL : (mF A 1066 323) = nI n) (hp : PR A M 0) (s0 : mF A 1067 323 = 0) (s1 : mF A 1068 323 = 0) (m0 : mF M 453 319 = 0) (hj : JI im ig A M) (hf : FI F ek im A M) :
    ∃ A' M' st r me a5, RD F ek A M A' M' st r me a5 ∧
      ((rc A 16 (some 323)).bind fun q16 => b2 (fX16_lineEnd fu q16 (0 : Int32) A) fun v18 M17 => (rc M17 16 (some 323)).bind fun q19 => b2 (fX16_shown fu q19 (0 : Int32) v18 M17) fun v21 M20 => (rc M20 16 (some 323)).bind fun q22 => b2 (fX16_requestLine fu q22 (0 : Int32) v21 M20) fun v24 M23 => fX16_answer_L127 fu fu 323 c v18 v24 v24 (-1 : Int32) M23) = fX16_answer_L204 fu 323 c a5 (if st = 200 ∨ st = 304 then nI r else -1) A' ∧
      fX7_readHead_L8 fu fu 319 (nI n) (0 : Int32) (0 : Int32) M = some (nI st, M') := by
  have hn4 := h.1
  have o := rw_ok323 hR
  obtain ⟨e, e1, e2, e3, e4⟩ := Stop.ex (fun i => H i ≠ 10) (i := 0) (n := n - 1) (by omega)
  have h4 : H e = 10 := by
    by_cases z : e < n - 1
    · exact Classical.not_not.mp (e4 z)
    · rw [show e = n - 1 by omega]; exact hl
  have hen : e < n := by omega
  have he0 : e ≠ 0 := fun z => n1 (by rw [← z]; exact h4)
  obtain ⟨t1, t2⟩ := toN_le (H := H) e1
  have tp : ¬ toN H 0 e ≤ 0 := by
    unfold toN
    split
    · rename_i q
      intro z
      have z1 : e = 1 := by omega
      subst z1
      exact n2 (by omega) ⟨q.2, h4⟩
    · omega
  have ra : fX16_lineEnd fu 323 (0 : Int32) A = some (nI e, A) := m_lineEnd fu (by omega) hR hB h e1 hen e3 h4
  have rs : fX16_shown fu 323 (0 : Int32) (nI e) A = some (nI (toN H 0 e), A) := m_shown fu hR hB h e1 hen
  have rx : fX7_readHead_L8 fu fu 319 (nI n) (0 : Int32) (0 : Int32) M = _ := x_toEnd fu hW hBM h (s := 0) (e := e) (m := fu) e1 hen e3 h4 (by omega)
  rw [if_neg tp, if_pos rfl] at rx
  rw [rc_ok o, ob_some, ra, b2_some, rc_ok o, ob_some, rs, b2_some, rc_ok o, ob_some, rx]
  have tl : toN H 0 e < n := by omega
  have u400 : ∀ (A1 : Mm) (a5 : Int32), RW A1 → fX16_answer_L183 fu 323 c 0 a5 (-1) A1 = fX16_answer_L204 fu 323 c a5 (-1) (sF A1 1067 323 (nI 400)) := fun A1 a5 h1 => by
    unfold fX16_answer_L183
    rw [if_pos rfl, pF_ok (rw_ok323 h1), ob_some]
    rfl
  rcases m_reqLine fu (by omega) hR hB h tl with ⟨a, b, k1, k2⟩ | ⟨k1, k2⟩
  · rcases x_reqLine fu (by omega) hW h tl (toN_32 h4) with ⟨a', b', j1, j2⟩ | ⟨j1, -⟩
    · have ab : a' = a ∧ b' = b := by
        have w1 := j1.2.2.2.1
        have w2 := k1.2.2.2.1
        refine ⟨?_, by omega⟩
        have z1 := k1.2.2.2.2.2.1
        have z2 := j1.2.2.2.2.2.1
        rcases Nat.lt_trichotomy a' a with q | q | q
        · have := k1.2.2.2.2.1 a' q
          omega
        · exact q
        · have := j1.2.2.2.2.1 a q
          omega
      obtain ⟨rfl, rfl⟩ := ab
      have k2' : fX16_requestLine fu 323 (0 : Int32) (nI (toN H 0 e)) A = some (1, rlA A H (toN H 0 e) a' b') := k2
      rw [k2', b2_some, j2, b2_some, if_neg (by decide)]
      generalize hA1 : rlA A H (toN H 0 e) a' b' = A1
      generalize hM1 : sF (sF (sF (sF M 454 319 (nI (oldN H (toN H 0 e)))) 455 319 (nI (a' + 1))) 456 319 (nI b')) 453 319 (nI (meN H a')) = M1
      have fA : FF (fun f => f = 1069 ∨ f = 1068 ∨ f = 1084 ∨ f = 1080 ∨ f = 1081) 323 A A1 := by
        subst hA1
        unfold rlA
        exact ((((FF.s _ (by omega)).tr (FF.s _ (by omega))).tr (FF.s _ (by omega))).tr (FF.s _ (by omega))).tr (FF.s _ (by omega))
      have fM : FF (fun f => 453 ≤ f ∧ f ≤ 456) 319 M M1 := by
        subst hM1
        exact (((FF.s _ (by omega)).tr (FF.s _ (by omega))).tr (FF.s _ (by omega))).tr (FF.s _ (by omega))
      have v69 : mF A1 1069 323 = nI (oldN H (toN H 0 e)) := by subst hA1; unfold rlA; simp only [mF_sF, reduceIte, Nat.reduceEqDiff, Nat.reduceAdd, Nat.reduceMul, Nat.reduceLT, Nat.reduceLeDiff, and_true, true_and, and_false, false_and, and_self, ne_eq, not_true_eq_false, not_false_eq_true, Option.some.injEq, reduceCtorEq]
      have v68 : mF A1 1068 323 = (if meN H a' = 1 then 1 else 0) := by subst hA1; unfold rlA; simp only [mF_sF, reduceIte, Nat.reduceEqDiff, Nat.reduceAdd, Nat.reduceMul, Nat.reduceLT, Nat.reduceLeDiff, and_true, true_and, and_false, false_and, and_self, ne_eq, not_true_eq_false, not_false_eq_true, Option.some.injEq, reduceCtorEq]
      have v84 : mF A1 1084 323 = (if meN H a' = 2 then 1 else 0) := by subst hA1; unfold rlA; simp only [mF_sF, reduceIte, Nat.reduceEqDiff, Nat.reduceAdd, Nat.reduceMul, Nat.reduceLT, Nat.reduceLeDiff, and_true, true_and, and_false, false_and, and_self, ne_eq, not_true_eq_false, not_false_eq_true, Option.some.injEq, reduceCtorEq]
      have v80 : mF A1 1080 323 = nI (a' + 1) := by subst hA1; unfold rlA; simp only [mF_sF, reduceIte, Nat.reduceEqDiff, Nat.reduceAdd, Nat.reduceMul, Nat.reduceLT, Nat.reduceLeDiff, and_true, true_and, and_false, false_and, and_self, ne_eq, not_true_eq_false, not_false_eq_true, Option.some.injEq, reduceCtorEq]
      have v81 : mF A1 1081 323 = nI b' := by subst hA1; unfold rlA; simp only [mF_sF, reduceIte, Nat.reduceEqDiff, Nat.reduceAdd, Nat.reduceMul, Nat.reduceLT, Nat.reduceLeDiff, and_true, true_and, and_false, false_and, and_self, ne_eq, not_true_eq_false, not_false_eq_true, Option.some.injEq, reduceCtorEq]
      have x54 : mF M1 454 319 = nI (oldN H (toN H 0 e)) := by subst hM1; simp only [mF_sF, reduceIte, Nat.reduceEqDiff, Nat.reduceAdd, Nat.reduceMul, Nat.reduceLT, Nat.reduceLeDiff, and_true, true_and, and_false, false_and, and_self, ne_eq, not_true_eq_false, not_false_eq_true, Option.some.injEq, reduceCtorEq]
      have x55 : mF M1 455 319 = nI (a' + 1) := by subst hM1; simp only [mF_sF, reduceIte, Nat.reduceEqDiff, Nat.reduceAdd, Nat.reduceMul, Nat.reduceLT, Nat.reduceLeDiff, and_true, true_and, and_false, false_and, and_self, ne_eq, not_true_eq_false, not_false_eq_true, Option.some.injEq, reduceCtorEq]
      have x56 : mF M1 456 319 = nI b' := by subst hM1; simp only [mF_sF, reduceIte, Nat.reduceEqDiff, Nat.reduceAdd, Nat.reduceMul, Nat.reduceLT, Nat.reduceLeDiff, and_true, true_and, and_false, false_and, and_self, ne_eq, not_true_eq_false, not_false_eq_true, Option.some.injEq, reduceCtorEq]
      have x53 : mF M1 453 319 = nI (meN H a') := by subst hM1; simp only [mF_sF, reduceIte, Nat.reduceEqDiff, Nat.reduceAdd, Nat.reduceMul, Nat.reduceLT, Nat.reduceLeDiff, and_true, true_and, and_false, false_and, and_self, ne_eq, not_true_eq_false, not_false_eq_true, Option.some.injEq, reduceCtorEq]
      clear hA1 hM1 k2 k2' j2
      have gA1 : ∀ f, ¬ (f = 1069 ∨ f = 1068 ∨ f = 1084 ∨ f = 1080 ∨ f = 1081) → mF A1 f 323 = mF A f 323 := fun f q => fA.2.2.2.2 f 323 (fun z => q z.1)
      have gM1 : ∀ f, ¬ (453 ≤ f ∧ f ≤ 456) → mF M1 f 319 = mF M f 319 := fun f q => fM.2.2.2.2 f 319 (fun z => q z.1)
      have hp1 : PR A1 M1 0 := by
        unfold PR at hp ⊢
        rw [gA1 1070 (by omega), gA1 1071 (by omega), gA1 1072 (by omega), gA1 1073 (by omega), gA1 1074 (by omega), gA1 1075 (by omega), gA1 1076 (by omega), gA1 1077 (by omega), gA1 1078 (by omega), gA1 1085 (by omega), gA1 1086 (by omega), gM1 457 (by omega), gM1 458 (by omega), gM1 459 (by omega), gM1 460 (by omega), gM1 461 (by omega), gM1 462 (by omega), gM1 463 (by omega), gM1 464 (by omega), gM1 465 (by omega)]
        exact hp
      have me2 : meN H a' ≤ 2 := by unfold meN; split; omega; split <;> omega
      have me1 : (if meN H a' = 1 then (1 : Int32) else 0) = nI (if meN H a' = 1 then 1 else 0) := by split <;> rfl
      obtain ⟨A2, M2, f2, g2, lr⟩ := sp_lines fu (by omega) c 1 (-1) hl (n - (e + 1)) (e + 1) A1 M1 (fu - 1) (fu - 1 - e - 1) (by omega) (by omega) (by omega) (by omega) (by omega) (fA.rW hR) (fA.by' hB) (fM.xW hW) (fM.by' hBM) (h.ff fA fM) ((gA1 1066 (by omega)).trans hL) (PR_mono hp1 (by omega))
      rw [show fu - 1 + 1 = fu by omega, show fu - 1 - e - 1 + 1 = fu - 1 - (e - 0) by omega, show e + 1 - 1 = e by omega] at lr
      have q2 : FQA A A2 := (FF.fqA fA (by intro f hf; omega)).tr (FF.fqA f2 (by intro f hf; unfold SfA at hf; omega))
      have p2 : FQM M M2 := (FF.fqM fM (by intro f hf; omega)).tr (FF.fqM g2 (by intro f hf; unfold SfM at hf; omega))
      have gA2 : ∀ f, ¬ SfA f → mF A2 f 323 = mF A1 f 323 := fun f q => f2.2.2.2.2 f 323 (fun z => q z.1)
      have gM2 : ∀ f, ¬ SfM f → mF M2 f 319 = mF M1 f 319 := fun f q => g2.2.2.2.2 f 319 (fun z => q z.1)
      have hB2 := f2.by' (fA.by' hB)
      have hBM2 := g2.by' (fM.by' hBM)
      have hR2 := q2.rW hR
      have hW2 := p2.xW hW
      rcases lr with ⟨hp2, l1, l2⟩ | ⟨l1, l2⟩
      · rw [l1, l2]
        have hR1 : rc A2 16 (some 323) = some 323 := rc_ok (rw_ok323 hR2)
        obtain ⟨A3, M3, st, r, ch, z1, z2⟩ := sp_chosen fu hfu hR2 hB2 hW2 hBM2 ((h.ff fA fM).ff f2 g2) k1 tl ((gA2 1080 (by unfold SfA; omega)).trans v80) ((gA2 1081 (by unfold SfA; omega)).trans v81) ((gM2 455 (by unfold SfM; omega)).trans x55) ((gM2 456 (by unfold SfM; omega)).trans x56) hp2 (((gA2 1067 (by unfold SfA; omega)).trans (gA1 1067 (by omega))).trans s0) ((gA2 1069 (by unfold SfA; omega)).trans v69) ((gM2 454 (by unfold SfM; omega)).trans x54) ((gA2 1084 (by unfold SfA; omega)).trans v84) ((gM2 453 (by unfold SfM; omega)).trans x53) (JI_q hj q2 p2) (FI_q hf q2 p2)
        obtain ⟨y1, y2, y3, y4, y5, y6, y7, y8, y9⟩ := ch
        refine ⟨A3, M3, st, r, meN H a', 1, ⟨q2.tr y1, p2.tr y2, y5, y6, y7, ?_, ?_, me2, y8, y9, ?_, ?_⟩, ?_, ?_⟩
        · rw [y3 1068 (by decide) (by decide), gA2 1068 (by unfold SfA; omega), v68, me1]
        · rw [y4 453 (by decide) (by decide), gM2 453 (by unfold SfM; omega), x53]
        · intro _
          refine ⟨rfl, ?_, ?_, ?_⟩
          · rw [y3 1069 (by decide) (by decide), gA2 1069 (by unfold SfA; omega), v69, y4 454 (by decide) (by decide), gM2 454 (by unfold SfM; omega), x54]
          · rw [y3 1070 (by decide) (by decide), y4 464 (by decide) (by decide)]; exact hp2.cl
          · rw [y3 1071 (by decide) (by decide), y4 465 (by decide) (by decide)]; exact hp2.ke
        · intro w1 w2 w3
          obtain ⟨b1, b2', b3⟩ := verdict_len fu hW2 z2 w1 w2 w3 (by omega)
          obtain ⟨V, v1, v2, v3⟩ := PR_body (st := st) hp2 (by omega) b1 b2' b3
          refine ⟨V, v1, ?_, ?_⟩
          · rw [y3 1075 (by decide) (by decide)]; exact v2
          · rw [y4 460 (by decide) (by decide)]; exact v3
        · unfold fX16_answer_L183
          rw [if_neg (by decide), hR1, ob_some, z1, b2_some]
        · unfold fX7_readHead_L90
          rw [rc_ok (xw_ok319 hW2), ob_some, z2, b2_some]
      · rw [l1, l2, u400 _ _ hR2]
        refine ⟨sF A2 1067 323 (nI 400), M2, 400, 0, meN H a', 1, ⟨q2.tr (FQA.s _ (by decide)), p2, hB2, hBM2, ?_, ?_, ?_, me2, by omega, by omega, fun z => absurd rfl z, fun z => absurd rfl z⟩, ?_, rfl⟩
        · rw [mF_sF, if_pos ⟨rfl, rfl⟩]
        · rw [mF_sF, if_neg (by decide), gA2 1068 (by unfold SfA; omega), v68, me1]
        · rw [gM2 453 (by unfold SfM; omega), x53]
        · rw [if_neg (by decide)]
    · exact (j1 _ _ k1).elim
  · rcases x_reqLine fu (by omega) hW h tl (toN_32 h4) with ⟨a', b', j1, j2⟩ | ⟨j1, j2⟩
    · exact (k1 _ _ j1).elim
    · have k2' : fX16_requestLine fu 323 (0 : Int32) (nI (toN H 0 e)) A = some (0, A) := k2
      rw [k2', b2_some, j2, b2_some, if_pos rfl, show fu = (fu - 1) + 1 by omega, fX16_answer_L127, if_pos rfl, show fu - 1 + 1 = fu by omega, u400 _ _ hR]
      refine ⟨sF A 1067 323 (nI 400), M, 400, 0, 0, 0, ⟨FQA.s _ (by decide), FQM.rf, hB, hBM, ?_, ?_, m0, by omega, by omega, by omega, fun z => absurd rfl z, fun z => absurd rfl z⟩, ?_, rfl⟩
      · rw [mF_sF, if_pos ⟨rfl, rfl⟩]
      · rw [mF_sF, if_neg (by decide), s1]; rfl
      · rw [if_neg (by decide)]
end Read2
