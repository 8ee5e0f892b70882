/-! ===== part 97u: an acknowledgement, in both ===== -/
section Ack2
variable {A A' M M' : Mm}
theorem JI_fc {im ig k c : Nat} (hW : XW M) (hC : CnO M c) (fA : FCA k A A') (fM : FCM c M M') (h : JI im ig A M) : JI im ig A' M' := by
  obtain ⟨z1, z2, z3, z4, z5, z6, z7, z8, z9, z10, z11⟩ := h
  obtain ⟨c1, c2, c3, c4, c5, c6, c7, c8, c9, c10, c11, c12, c13, c14⟩ := hC
  have lt := z2.2.1
  obtain ⟨ty, ln⟩ := fM.2.1 ig lt
  have ty1 := (fM.2.1 (ig - 1) (by omega)).1
  have hA : mA A' 325 = mA A 325 := fA.2.2.2.2.1 325 (by unfold QCa QL; omega)
  have hM : mA M' ig = mA M ig := by
    refine fM.2.2.2.2.2 ig lt ?_
    have q := n100 hW z2
    have q1 : ig ≠ c + 1 := fun e => z9 (by rw [e]; exact c1.2.2)
    have q2 : ig ≠ c + 3 := fun e => z10 (by rw [e]; exact c7.2.2)
    have q3 := ok_ne z2 c12 (by decide)
    have q4 := ok_ne z2 (xw_ok305 hW) (by decide)
    unfold QCx QLx
    omega
  refine ⟨?_, fM.ok z2, by rw [ln]; exact z3, z4, by rw [hA, hM]; exact z5, z6, by rw [ty1]; exact z7, by rw [ty1]; exact z8, by rw [ty1]; exact z9, by rw [ty1]; exact z10, z11⟩
  rw [fM.2.2.1 512 301 (xw_ok301 hW).2.1 (fun e => e)]; exact z1
theorem TB_fc {KN KS t T t' T' im ig k c nw : Nat} (h : TB A M KN KS t T im ig c nw) (hJ : JL0 KN KS t' T' A' M') (ba : Bd RM TM A') (bm : Bd RX TX M') (jn : JN A' M') (fA : FCA k A A') (fM : FCM c M M') : TB A' M' KN KS t' T' im ig c nw :=
  TB.mk hJ ba bm jn (JI_fc h.xw h.cn fA fM h.ji) (CnO_fr fM h.cn) ((fA.2.2.2.1 _ _ (by unfold PCa PL; omega)).trans h.nw) h.n2
theorem TK_mono {KN KS t u T k c nw im ig hd ft : Nat} {b0 : Int32} {v : Nat → Nat} (hu : t + u ≤ 1000) (h : TK A M KN KS t T im ig k c nw hd ft b0 v) : TK A M KN KS (t + u) T im ig k c nw hd ft b0 v := TK.mk (JL0_mono hu h.jl) h.ba h.bm h.jn h.ji h.cn h.ce h.cp (CI_mono h.ci) h.cs h.cr h.nw h.n2
theorem TK.cw {KN KS t T k c nw im ig hd ft : Nat} {b0 : Int32} {v : Nat → Nat} (h : TK A M KN KS t T im ig k c nw hd ft b0 v) (n1 : (v 0) ≠ 1) : CW A k nw b0 v := by
  have hS := h.cs
  have := hS.st1
  exact CW.mk hS.st ⟨by omega, this.2⟩ (hS.sN1 n1) hS.s27 (fun e => (hS.s358 e).1) hS.s46 (hS.la n1) hS.si
theorem AckR.pre {KN KS t T im ig k c nw : Nat} {A1 M1 : Mm} {b : Int32} (f1 : FCA k A A1) (f2 : FCM c M M1) (h : AckR KN KS t T im ig k c nw A1 M1 A' M' b) : AckR KN KS t T im ig k c nw A M A' M' b := ⟨f1.tr h.1, f2.tr h.2.1, h.2.2⟩
/-- the window, then our end -/
theorem sp_atail (fu : Nat) {KN KS t T k c nw im ig hd ft bd da dx dl w : Nat} {b0 : Int32} {v : Nat → Nat} (h : TB A M KN KS t T im ig c nw) (hk : k < 16) (hE : CE A M k c) (hP : CP A M k c) (hI : CI A k nw t im b0 v) (hS : CW A k nw b0 v) (hr : CR A M k c hd ft) (hG : SG A M bd da dx dl w) :
    ∃ A' M' b, fX16_acknowledgement_L151 fu 323 (some (342 + 4 * k)) A = some (b, A') ∧ fX9_isAcknowledged_L91 fu 317 (some c) M = some (b, M') ∧ AckR KN KS t T im ig k c nw A M A' M' b := by
  obtain ⟨A1, M1, v1, r1, r2, r3, r4, r5, r6, r7, r8, r9, r10⟩ := sp_window fu h hk hE hP hI hS hr hG
  obtain ⟨A', M', b, s1, s2, s3⟩ := sp_finAck fu r3 hk r4 r5 r6 r7 r8
  exact ⟨A', M', b, r1.trans s1, r2.trans s2, s3.pre r9 r10⟩
/-- a number between two -/
theorem ack_mid {b x : Int32} {u m : Nat} (hum : u ≤ m) (hm : m < 2 ^ 30) (h1 : x - (b + nI m) ≤ 0) (h2 : ¬ x - (b + nI u) ≤ 0) : ∃ u', x = b + nI u' ∧ u < u' ∧ u' ≤ m := by
  have h3 : ¬ x - (b + nI u) < 0 := fun e => h2 (Int32.le_of_lt e)
  obtain ⟨j, hj, e⟩ := nI_of h3
  have ex : x = b + nI (u + j) := by
    have : x = (x - (b + nI u)) + (b + nI u) := (Int32.sub_add_cancel x (b + nI u)).symm
    rw [this, e, Int32.add_comm, Int32.add_assoc, nI_add]
  have j0 : j ≠ 0 := fun e0 => h2 (by rw [e, e0]; decide)
  refine ⟨u + j, ex, by omega, ?_⟩
  by_cases q : u + j ≤ m
  · exact q
  · exfalso
    rw [ex, sub_b0, nI_sub (by omega)] at h1
    exact nI_nle (n := u + j - m) (by omega) (by omega) h1
/-- what a new acknowledgement leaves of what came -/
theorem sp_ack (fu : Nat) (hfu : 4000 ≤ fu) {KN KS t T k c nw im ig hd ft bd da dx dl w : Nat} {b0 : Int32} {v : Nat → Nat} (h : TK A M KN KS t T im ig k c nw hd ft b0 v) (hk : k < 16) (hG : SG A M bd da dx dl w) (hT2 : T < 2 ^ 30) (ht : t ≤ 600) :
    ∃ A' M' T' b, fX16_acknowledgement fu 323 (some (342 + 4 * k)) A = some (b, A') ∧ (if (mF M 64 c) = 1 then fX9_isOpened fu 317 (some c) M else fX9_isAcknowledged fu 317 (some c) M) = some (b, M') ∧ T ≤ T' ∧ T' ≤ T + 1 ∧ AckR KN KS (t + 1) T' im ig k c nw A M A' M' b := by
  have hR := h.rw'
  have hW := h.xw
  have hA := rw_cnO hR k hk
  have o323 := rw_ok323 hR
  have o3 := xw_ok314 hW
  have o317 := xw_ok317 hW
  have hC := h.cn
  have c1 := hC.1
  have hE := h.ce
  have hP := h.cp
  have hI := h.ci
  have hS := h.cs
  have hr := h.cr
  have hs1 := hS.st1
  have b1 := hI.hl1
  have b2' := hI.bl1
  have hcl1 := hI.cl1
  have hua := hI.ua
  have ham := hI.am
  have hmL := hI.mL
  have one0 : ¬ (1 : Int32) = 0 := by decide
  have stx : (mF M 64 c) = nI (v 0) := by rw [← hE.st]; exact hS.st
  have h1 := TK_mono (u := 1) (by omega) h
  have hRM : RM 323 := by unfold RM; omega
  have hRX : RX 317 := by unfold RX; omega
  have iA : inR RM (some (342 + 4 * k)) := inR_some (by unfold RM; omega)
  have iX : inR RX (some c) := inR_some (h.bm.1 c 1 c1 (by unfold TX; omega))
  -- a new acknowledgement
  have fresh : ∀ u', (mF A 1059 323) = b0 + nI u' → (v 1) < u' → u' ≤ (v 3) → ∃ A1 M1 v1, fX16_fresh fu 323 (some (342 + 4 * k)) A = some A1 ∧ fX9_takeNew fu 317 (some c) M = some M1 ∧ TB A1 M1 KN KS (t + 1) T im ig c nw ∧ CE A1 M1 k c ∧ CP A1 M1 k c ∧ CI A1 k nw (t + 1) im b0 v1 ∧ CR A1 M1 k c hd ft ∧ FCA k A A1 ∧ FCM c M M1 ∧ (v1 0) = (v 0) ∧ (v1 1) = u' ∧ (v1 3) = (v 3) ∧ (v1 2) = max (v 2) u' ∧ (v1 4) = (v 4) ∧ (v1 5) = (v 5) ∧ (v1 7) = (v 7) ∧ (v1 8) = (v 8) ∧ (v1 22) = nw ∧ (v1 23) = (v 23) ∧ (mF A1 812 (342 + 4 * k)) = nI nw ∧ (mF A1 786 (342 + 4 * k)) = 0 ∧ (∀ f, f = 768 ∨ f = 769 ∨ f = 770 ∨ f = 771 ∨ (774 ≤ f ∧ f ≤ 777) ∨ (794 ≤ f ∧ f ≤ 811) ∨ f = 813 → mF A1 f (342 + 4 * k) = mF A f (342 + 4 * k)) ∧ (mF M1 73 c) = nI nw := by
    intro u' e1 e2 e3
    obtain ⟨A1, M1, v1, r1, r2, r3, r4, r5, r6, r7, r8, r9, r10, r11, r12, r13, r14, r15, r16, r17, r18, r19, r20, r21, r22, r23, r24, r25⟩ := sp_fresh fu h.jl hk hC hE hP hI (fun e => by
      rw [hS.st] at e
      exact (hS.s1 ((nI_eq (b := 1) (by omega) (by decide)).mp e)).2.2.2.2.2.2.2) h.jn ht h.nw h.n2 e1 hG.ak.symm e2 e3
    have zA : ∀ a, a ≠ 330 → mA A1 a = mA A a := fun a hn => by rw [r23, mA_wA_ne hn]
    have zM : ∀ a, a ≠ 305 → mA M1 a = mA M a := fun a hn => by rw [r24, mA_wA_ne hn]
    obtain ⟨-, -, -, -, d5, -, d7, -, -, d10, -, d12, -⟩ := hC
    have n3 := ok_ne d10 (xw_ok305 hW) (by decide)
    have n4 : c + 4 ≠ 305 := fun e => by
      have : c + 3 = 304 := by omega
      rw [this] at d10
      exact absurd (d10.2.2.symm.trans (xw_ok304 hW).2.2) (by decide)
    refine ⟨A1, M1, fun i => if i = 0 then (v 0) else if i = 23 then (v 23) else v1 i, r1, r2, TB_fc h1.tb (JL0_mono (by omega) r3) (oX16_fresh fu 323 _ A h.ba hRM iA r1).2 (oX9_takeNew fu 317 _ M h.bm hRX iX r2).2 r7 r8 r9, r4, r5, ?_, ?_, r8, r9, rfl, r10, r11, r12, r13, r14, r15, r16, r17, rfl, r18, r19, r20, r25⟩
    · have FA' : ∀ g, ¬ 100000 ≤ g → mF A1 g (342 + 4 * k) = mF A1 g (342 + 4 * k) := fun _ _ => rfl
      refine CI.mk ?_ ?_ ?_ ?_ ?_ ?_ ?_ ?_ ?_ ?_ ?_ ?_ ?_ ?_ ?_ ?_ ?_ ?_ ?_ ?_ ?_ ?_ ?_ ?_ ?_ ?_ ?_ ?_ ?_ ?_ ?_ ?_ ?_ ?_ ?_ ?_
      · exact (FA' 797 (by omega)).trans r6.bg
      · exact (FA' 772 (by omega)).trans r6.una
      · exact (FA' 773 (by omega)).trans r6.at'
      · exact (FA' 774 (by omega)).trans r6.max
      · exact r6.ua
      · exact r6.am
      · exact r6.mL
      · exact (FA' 794 (by omega)).trans r6.hl
      · exact r6.hl1
      · exact (FA' 796 (by omega)).trans r6.bl
      · exact r6.bl1
      · rw [FA' 795 (by omega)]; exact r6.bp
      · exact (FA' 798 (by omega)).trans r6.cl
      · exact r6.cl1
      · exact (FA' 799 (by omega)).trans r6.fn
      · exact r6.fn1
      · exact r6.fnI
      · exact (FA' 778 (by omega)).trans r6.ms
      · exact r6.ms1
      · exact (FA' 779 (by omega)).trans r6.cw
      · exact r6.cw1
      · exact (FA' 780 (by omega)).trans r6.ss
      · exact r6.ss1
      · exact (FA' 781 (by omega)).trans r6.ro
      · exact r6.ro1
      · exact (FA' 775 (by omega)).trans r6.wi
      · exact r6.wi1
      · exact (FA' 789 (by omega)).trans r6.on
      · exact r6.on1
      · rw [FA' 790 (by omega)]; exact r6.tm
      · exact (FA' 785 (by omega)).trans r6.ti
      · exact r6.ti1
      · rw [FA' 787 (by omega), FA' 788 (by omega)]; exact r6.tn
      · exact (FA' 784 (by omega)).trans r6.me
      · exact r6.me1
      · rw [FA' 782 (by omega), FA' 783 (by omega)]; exact r6.sv
    · exact CR_congr (A := A) (M := M) (fun g hg => r20 g (by omega)) (zA _ (by omega)) (zA _ (by omega)) (fun g hg => r21 g (by omega)) (zM _ n3) (zM _ n4) hr
  by_cases s1 : (v 0) = 1
  · obtain ⟨q1, q2, q3, q4, q5, q6, q7, q8⟩ := hS.s1 s1
    rw [if_pos (by rw [stx, s1]; rfl)]
    by_cases p : (mF A 1059 323) = b0 + 1
    · obtain ⟨A1, M1, v1, r1, r2, r3, r4, r5, r6, r7, r8, r9, g0, g1, g2, g3, g4, g5, g6, g7, g8, g9, g10, g11, g12, g13⟩ := fresh 1 p (by omega) (by omega)
      have hR1 := r3.rw'
      have hW1 := r3.xw
      have hA1 := rw_cnO hR1 k hk
      have k1 := r3.cn.1
      have hG1 := SG_fr hW h.cn r8 r9 hG
      have nn : (314 : Nat) ≠ c := ok_ne o3 c1 (by decide)
      generalize hA2 : sF (sF (sF (sF (sF (sF A1 768 (342 + 4 * k) 2) 811 (342 + 4 * k) (nI nw)) 812 (342 + 4 * k) (nI nw)) 775 (342 + 4 * k) (nI w)) 776 (342 + 4 * k) (mF A1 1058 323)) 777 (342 + 4 * k) (mF A1 1059 323) = A2
      generalize hM2 : sF (sF (sF (sF M1 71 c (nI w)) 82 c (mF A1 1058 323)) 83 c (mF A1 1059 323)) 64 c 2 = M2
      have FAo : ∀ g a, ¬ ((g = 768 ∨ g = 775 ∨ g = 776 ∨ g = 777 ∨ g = 811 ∨ g = 812) ∧ a = 342 + 4 * k) → mF A2 g a = mF A1 g a := fun g a hg => by
        subst hA2
        rw [mF_sF, if_neg (fun e => hg ⟨by omega, e.2⟩), mF_sF, if_neg (fun e => hg ⟨by omega, e.2⟩), mF_sF, if_neg (fun e => hg ⟨by omega, e.2⟩), mF_sF, if_neg (fun e => hg ⟨by omega, e.2⟩), mF_sF, if_neg (fun e => hg ⟨by omega, e.2⟩), mF_sF, if_neg (fun e => hg ⟨by omega, e.2⟩)]
      have FMo : ∀ g a, ¬ ((g = 64 ∨ g = 71 ∨ g = 82 ∨ g = 83) ∧ a = c) → mF M2 g a = mF M1 g a := fun g a hg => by
        subst hM2
        rw [mF_sF, if_neg (fun e => hg ⟨by omega, e.2⟩), mF_sF, if_neg (fun e => hg ⟨by omega, e.2⟩), mF_sF, if_neg (fun e => hg ⟨by omega, e.2⟩), mF_sF, if_neg (fun e => hg ⟨by omega, e.2⟩)]
      have a68 : mF A2 768 (342 + 4 * k) = 2 := by subst hA2; simp only [mF_sF, reduceIte, Nat.reduceEqDiff, Nat.reduceAdd, Nat.reduceMul, Nat.reduceLT, Nat.reduceLeDiff, and_true, true_and, and_false, false_and, and_self, ne_eq, not_true_eq_false, not_false_eq_true, Option.some.injEq, reduceCtorEq]
      have a75 : mF A2 775 (342 + 4 * k) = nI w := by subst hA2; simp only [mF_sF, reduceIte, Nat.reduceEqDiff, Nat.reduceAdd, Nat.reduceMul, Nat.reduceLT, Nat.reduceLeDiff, and_true, true_and, and_false, false_and, and_self, ne_eq, not_true_eq_false, not_false_eq_true, Option.some.injEq, reduceCtorEq]
      have a76 : mF A2 776 (342 + 4 * k) = (mF A1 1058 323) := by subst hA2; simp only [mF_sF, reduceIte, Nat.reduceEqDiff, Nat.reduceAdd, Nat.reduceMul, Nat.reduceLT, Nat.reduceLeDiff, and_true, true_and, and_false, false_and, and_self, ne_eq, not_true_eq_false, not_false_eq_true, Option.some.injEq, reduceCtorEq]
      have a77 : mF A2 777 (342 + 4 * k) = (mF A1 1059 323) := by subst hA2; simp only [mF_sF, reduceIte, Nat.reduceEqDiff, Nat.reduceAdd, Nat.reduceMul, Nat.reduceLT, Nat.reduceLeDiff, and_true, true_and, and_false, false_and, and_self, ne_eq, not_true_eq_false, not_false_eq_true, Option.some.injEq, reduceCtorEq]
      have a12 : mF A2 812 (342 + 4 * k) = nI nw := by subst hA2; simp only [mF_sF, reduceIte, Nat.reduceEqDiff, Nat.reduceAdd, Nat.reduceMul, Nat.reduceLT, Nat.reduceLeDiff, and_true, true_and, and_false, false_and, and_self, ne_eq, not_true_eq_false, not_false_eq_true, Option.some.injEq, reduceCtorEq]
      have x64 : mF M2 64 c = 2 := by subst hM2; simp only [mF_sF, reduceIte, Nat.reduceEqDiff, Nat.reduceAdd, Nat.reduceMul, Nat.reduceLT, Nat.reduceLeDiff, and_true, true_and, and_false, false_and, and_self, ne_eq, not_true_eq_false, not_false_eq_true, Option.some.injEq, reduceCtorEq]
      have x71 : mF M2 71 c = nI w := by subst hM2; simp only [mF_sF, reduceIte, Nat.reduceEqDiff, Nat.reduceAdd, Nat.reduceMul, Nat.reduceLT, Nat.reduceLeDiff, and_true, true_and, and_false, false_and, and_self, ne_eq, not_true_eq_false, not_false_eq_true, Option.some.injEq, reduceCtorEq]
      have x82 : mF M2 82 c = (mF A1 1058 323) := by subst hM2; simp only [mF_sF, reduceIte, Nat.reduceEqDiff, Nat.reduceAdd, Nat.reduceMul, Nat.reduceLT, Nat.reduceLeDiff, and_true, true_and, and_false, false_and, and_self, ne_eq, not_true_eq_false, not_false_eq_true, Option.some.injEq, reduceCtorEq]
      have x83 : mF M2 83 c = (mF A1 1059 323) := by subst hM2; simp only [mF_sF, reduceIte, Nat.reduceEqDiff, Nat.reduceAdd, Nat.reduceMul, Nat.reduceLT, Nat.reduceLeDiff, and_true, true_and, and_false, false_and, and_self, ne_eq, not_true_eq_false, not_false_eq_true, Option.some.injEq, reduceCtorEq]
      have FA' : ∀ g, ¬ (g = 768 ∨ g = 775 ∨ g = 776 ∨ g = 777 ∨ g = 811 ∨ g = 812) → mF A2 g (342 + 4 * k) = mF A1 g (342 + 4 * k) := fun g hg => FAo g _ (fun e => hg e.1)
      have FC' : ∀ g, ¬ (g = 64 ∨ g = 71 ∨ g = 82 ∨ g = 83) → mF M2 g c = mF M1 g c := fun g hg => FMo g _ (fun e => hg e.1)
      have FR' : ∀ g, ¬ 100000 ≤ g → mF M2 g (c + 2) = mF M1 g (c + 2) := fun g _ => FMo g _ (by omega)
      have FP' : ∀ g, ¬ 100000 ≤ g → mF M2 g (c + 5) = mF M1 g (c + 5) := fun g _ => FMo g _ (by omega)
      obtain ⟨z1, z2, z3⟩ := TB_upd (k := k) (A' := A2) (M' := M2) (u := 0) r3 r3.t1000 (by subst hA2; rfl) (by subst hA2; rfl) (by subst hA2; rfl) (by subst hA2; rfl) (fun f a hh => FAo f a (by omega)) (by subst hM2; rfl) (by subst hM2; rfl) (by subst hM2; rfl) (by subst hM2; rfl) (fun f a h1 _ _ => FMo f a (fun e => h1 e.2))
      have hdA : mA A2 (343 + 4 * k) = mA A1 (343 + 4 * k) := by subst hA2; rfl
      have hdM : mA M2 (c + 1) = mA M1 (c + 1) := by subst hM2; rfl
      have st1 : (mF A1 768 (342 + 4 * k)) = 1 := by rw [g12 768 (by omega), hS.st, s1]; rfl
      have hw1 := hG.w1
      refine ⟨A2, M2, T, 1, ?_, ?_, Nat.le_refl _, by omega, r8.tr z2, r9.tr z3, Or.inl ⟨rfl, hd, ft, b0, fun i => if i = 0 then 2 else if i = 13 then w else v1 i, z1.tk ?_ ?_ ?_ ?_ ?_, by show (2 : Nat) ≠ 1; decide⟩⟩
      · unfold fX16_acknowledgement fX16_takeWindow
        rw [gI_ok hA, ob_some, if_pos (by rw [hS.st, s1]; rfl), gI_ok o323, ob_some, gI_ok hA, ob_some, q7, if_pos p, rc_ok o323, ob_some, r1, ob_some, pF_ok hA1, ob_some]
        have ok1 : okA (sF A1 768 (342 + 4 * k) 2) 16 323 := rw_ok323 hR1
        have ok2 : okA (sF A1 768 (342 + 4 * k) 2) 12 (342 + 4 * k) := hA1
        have ok3 : okA (sF (sF A1 768 (342 + 4 * k) 2) 811 (342 + 4 * k) (nI nw)) 16 323 := rw_ok323 hR1
        have ok4 : okA (sF (sF A1 768 (342 + 4 * k) 2) 811 (342 + 4 * k) (nI nw)) 12 (342 + 4 * k) := hA1
        have ok5 : okA (sF (sF (sF A1 768 (342 + 4 * k) 2) 811 (342 + 4 * k) (nI nw)) 812 (342 + 4 * k) (nI nw)) 16 323 := rw_ok323 hR1
        have ok6 : okA (sF (sF (sF A1 768 (342 + 4 * k) 2) 811 (342 + 4 * k) (nI nw)) 812 (342 + 4 * k) (nI nw)) 12 (342 + 4 * k) := hA1
        rw [gI_ok ok1, ob_some, mF_sF, if_neg (by omega), r3.nw, pF_ok ok2, ob_some, gI_ok ok3, ob_some, mF_sF, if_neg (by omega), mF_sF, if_neg (by omega), r3.nw, pF_ok ok4, ob_some, rc_ok ok5, ob_some, gI_ok ok5, ob_some, mF_sF, if_neg (by omega), mF_sF, if_neg (by omega), mF_sF, if_neg (by omega), hG1.wi, pF_ok ok6, ob_some]
        rw [gI_ok (by rw [ok_sF]; exact ok5), ob_some, pF_ok (by rw [ok_sF]; exact ok6), ob_some, gI_ok (by rw [ok_sF, ok_sF]; exact ok5), ob_some, pF_ok (by rw [ok_sF, ok_sF]; exact ok6), ob_some, ob_some, rN1]
        simp only [mF_sF, reduceIte, Nat.reduceEqDiff, Nat.reduceAdd, Nat.reduceMul, Nat.reduceLT, Nat.reduceLeDiff, and_true, true_and, and_false, false_and, and_self, ne_eq, not_true_eq_false, not_false_eq_true, Option.some.injEq, reduceCtorEq]
        rw [hA2]
      · unfold fX9_isOpened fX1_takeWindow
        rw [gR_ok o317, ob_some, xw_g579_317 hW, gI_ok o3, ob_some, gI_ok c1, ob_some, ← hG.ak, ← hE.is, q7, if_pos p, rc_ok o317, ob_some, r2, ob_some, gR_ok (xw_ok317 hW1), ob_some, xw_g579_317 hW1, rc_ok k1, ob_some, gI_ok (xw_ok314 hW1), ob_some, pF_ok k1, ob_some, hG1.wx, gI_ok (by rw [ok_sF]; exact xw_ok314 hW1), ob_some, pF_ok (by rw [ok_sF]; exact k1), ob_some, gI_ok (by rw [ok_sF, ok_sF]; exact xw_ok314 hW1), ob_some, pF_ok (by rw [ok_sF, ok_sF]; exact k1), ob_some, ob_some, pF_ok (by rw [ok_sF, ok_sF, ok_sF]; exact k1), ob_some, rN1]
        simp only [mF_sF, nn, reduceIte, Nat.reduceEqDiff, Nat.reduceAdd, Nat.reduceMul, Nat.reduceLT, Nat.reduceLeDiff, and_true, true_and, and_false, false_and, and_self, ne_eq, not_true_eq_false, not_false_eq_true, Option.some.injEq, reduceCtorEq]
        rw [← hG1.sq, ← hG1.ak, hM2]
      · refine CE.mk ?_ ?_ ?_ ?_ ?_ ?_ ?_ ?_ ?_ ?_ ?_ ?_ ?_ ?_ ?_ ?_ ?_ ?_
        · rw [a68, x64]
        · exact (FA' 769 (by omega)).trans (r4.ip.trans (FC' 65 (by omega)).symm)
        · exact (FA' 770 (by omega)).trans (r4.po.trans (FC' 66 (by omega)).symm)
        · exact (FA' 771 (by omega)).trans (r4.is.trans (FC' 67 (by omega)).symm)
        · exact (FA' 772 (by omega)).trans (r4.una.trans (FC' 68 (by omega)).symm)
        · exact (FA' 773 (by omega)).trans (r4.at'.trans (FC' 69 (by omega)).symm)
        · exact (FA' 774 (by omega)).trans (r4.max.trans (FC' 70 (by omega)).symm)
        · rw [a75, x71]
        · rw [a76, x82]
        · rw [a77, x83]
        · exact (FA' 794 (by omega)).trans (r4.hl.trans (FC' 78 (by omega)).symm)
        · exact (FA' 796 (by omega)).trans (r4.bl.trans (FC' 76 (by omega)).symm)
        · rw [FA' 796 (by omega), FA' 795 (by omega), FC' 75 (by omega)]; exact r4.bp
        · exact (FA' 797 (by omega)).trans (r4.bg.trans (FC' 77 (by omega)).symm)
        · exact (FA' 798 (by omega)).trans (r4.cl.trans (FC' 74 (by omega)).symm)
        · exact fun _ => by rw [a12, FC' 73 (by omega), g13]
        · exact fun e => by rw [a68] at e; exact absurd e (by decide)
        · rw [FA' 794 (by omega), hdA, hdM]; exact r4.hd
      · refine CP.mk ?_ ?_ ?_ ?_ ?_ ?_ ?_ ?_ ?_ ?_ ?_ ?_
        · exact (FA' 778 (by omega)).trans (r5.ms.trans (FP' 320 (by omega)).symm)
        · exact (FA' 779 (by omega)).trans (r5.cw.trans (FP' 321 (by omega)).symm)
        · exact (FA' 780 (by omega)).trans (r5.ss.trans (FP' 322 (by omega)).symm)
        · exact (FA' 781 (by omega)).trans (r5.ro.trans (FP' 323 (by omega)).symm)
        · exact (FA' 791 (by omega)).trans (r5.tr.trans (FP' 325 (by omega)).symm)
        · exact (FA' 792 (by omega)).trans (r5.du.trans (FP' 326 (by omega)).symm)
        · exact (FA' 786 (by omega)).trans (r5.re.trans (FP' 327 (by omega)).symm)
        · exact (FA' 785 (by omega)).trans (r5.ti.trans (FP' 328 (by omega)).symm)
        · rw [FA' 785 (by omega), FA' 787 (by omega), FA' 788 (by omega), FP' 329 (by omega), FP' 330 (by omega)]; exact r5.tn
        · exact (FA' 784 (by omega)).trans (r5.me.trans (FP' 331 (by omega)).symm)
        · rw [FA' 784 (by omega), FA' 782 (by omega), FA' 783 (by omega), FP' 332 (by omega), FP' 333 (by omega)]; exact r5.sv
        · rw [FA' 789 (by omega), FA' 790 (by omega), FP' 324 (by omega)]; exact r5.tm
      · refine CI.mk ?_ ?_ ?_ ?_ ?_ ?_ ?_ ?_ ?_ ?_ ?_ ?_ ?_ ?_ ?_ ?_ ?_ ?_ ?_ ?_ ?_ ?_ ?_ ?_ ?_ ?_ ?_ ?_ ?_ ?_ ?_ ?_ ?_ ?_ ?_ ?_
        · exact (FA' 797 (by omega)).trans r6.bg
        · exact (FA' 772 (by omega)).trans r6.una
        · exact (FA' 773 (by omega)).trans r6.at'
        · exact (FA' 774 (by omega)).trans r6.max
        · exact r6.ua
        · exact r6.am
        · exact r6.mL
        · exact (FA' 794 (by omega)).trans r6.hl
        · exact r6.hl1
        · exact (FA' 796 (by omega)).trans r6.bl
        · exact r6.bl1
        · rw [FA' 795 (by omega)]; exact r6.bp
        · exact (FA' 798 (by omega)).trans r6.cl
        · exact r6.cl1
        · exact (FA' 799 (by omega)).trans r6.fn
        · exact r6.fn1
        · exact r6.fnI
        · exact (FA' 778 (by omega)).trans r6.ms
        · exact r6.ms1
        · exact (FA' 779 (by omega)).trans r6.cw
        · exact r6.cw1
        · exact (FA' 780 (by omega)).trans r6.ss
        · exact r6.ss1
        · exact (FA' 781 (by omega)).trans r6.ro
        · exact r6.ro1
        · exact a75
        · exact hw1
        · exact (FA' 789 (by omega)).trans r6.on
        · exact r6.on1
        · rw [FA' 790 (by omega)]; exact r6.tm
        · exact (FA' 785 (by omega)).trans r6.ti
        · exact r6.ti1
        · rw [FA' 787 (by omega), FA' 788 (by omega)]; exact r6.tn
        · exact (FA' 784 (by omega)).trans r6.me
        · exact r6.me1
        · rw [FA' 782 (by omega), FA' 783 (by omega)]; exact r6.sv
      · refine CS.mk a68 ⟨by show (1 : Nat) ≤ 2; decide, by show (2 : Nat) ≤ 8; decide⟩ (fun e => absurd (show (2 : Nat) = 1 from e) (by decide)) (fun _ => by show 1 ≤ (v1 1); omega) (fun _ => ?_) (fun e => absurd (show (2 : Nat) = 3 ∨ (2 : Nat) = 5 ∨ (2 : Nat) = 8 from e) (by decide)) (fun e => absurd (show (2 : Nat) = 4 ∨ (2 : Nat) = 6 from e) (by decide)) (fun _ => ⟨?_, ?_, fun _ _ _ _ => ?_⟩) (fun e => absurd (show (2 : Nat) = 4 ∨ (2 : Nat) = 6 from e) (by decide))
        · show (v1 8) = 0
          have := hI.fnI
          have := hI.fn1
          omega
        · show mF A2 812 (342 + 4 * k) = nI (v1 22)
          rw [g8]; exact a12
        · show (v1 22) ≤ nw
          omega
        · show nw ≤ (v1 22) + 30000
          omega
      · have rwA : mA A2 (344 + 4 * k) = mA A1 (344 + 4 * k) := by subst hA2; rfl
        have thA : mA A2 (345 + 4 * k) = mA A1 (345 + 4 * k) := by subst hA2; rfl
        have rwM : mA M2 (c + 3) = mA M1 (c + 3) := by subst hM2; rfl
        have thM : mA M2 (c + 4) = mA M1 (c + 4) := by subst hM2; rfl
        refine CR.mk ?_ ?_ ?_ ?_ ?_ ?_ ?_ ?_ ?_ ?_ ?_ ?_ ?_ ?_ ?_ ?_ ?_ ?_ ?_
        · exact (FA' 803 (by omega)).trans (r7.rd.trans (FR' 0 (by omega)).symm)
        · exact (FA' 804 (by omega)).trans (r7.nx.trans (FR' 1 (by omega)).symm)
        · exact (FA' 805 (by omega)).trans (r7.to.trans (FR' 2 (by omega)).symm)
        · exact (FA' 806 (by omega)).trans (r7.lv.trans (FR' 3 (by omega)).symm)
        · exact (FA' 807 (by omega)).trans (r7.ow.trans (FR' 4 (by omega)).symm)
        · exact (FA' 808 (by omega)).trans (r7.fk.trans (FR' 7 (by omega)).symm)
        · exact (FA' 809 (by omega)).trans (r7.fT.trans (FR' 8 (by omega)).symm)
        · rw [FA' 808 (by omega), FA' 810 (by omega), FR' 9 (by omega)]; exact r7.fq
        · exact (FA' 809 (by omega)).trans r7.ftN
        · exact r7.ft1
        · rw [FA' 804 (by omega), FA' 803 (by omega)]; exact r7.nxN
        · exact r7.hd1
        · rw [FA' 806 (by omega)]; exact r7.lvN
        · rw [FA' 805 (by omega)]; exact r7.toN
        · rw [rwA, rwM, FA' 803 (by omega)]; exact r7.rw
        · rw [a68, r7.st, st1]; decide
        · rw [thA, thM, rwA, rwM, FA' 803 (by omega)]; exact r7.th
        · rw [thA]; exact r7.stp
        · rw [FA' 808 (by omega), FA' 804 (by omega), FA' 810 (by omega)]; exact r7.fnx
    · obtain ⟨A', M', T', r1, r2, r3, r4, r5, r6, r7, r8, r9, r10⟩ := sp_reset fu hfu h1.jl h.ba h.bm h.jn hG hT2
      refine ⟨A', M', T', 0, ?_, ?_, r3, r4, r9.ca, r10.cm, Or.inr ⟨rfl, Or.inl ⟨hd, ft, b0, v, TK_link hk h1 r5 r6 r7 r8 r9 r10⟩⟩⟩
      · unfold fX16_acknowledgement
        rw [gI_ok hA, ob_some, if_pos (by rw [hS.st, s1]; rfl), gI_ok o323, ob_some, gI_ok hA, ob_some, q7, if_neg p, rc_ok o323, ob_some, r1, ob_some, rN0]
      · unfold fX9_isOpened
        rw [gR_ok o317, ob_some, xw_g579_317 hW, gI_ok o3, ob_some, gI_ok c1, ob_some, ← hG.ak, ← hE.is, q7, if_neg p, rc_ok o317, ob_some, r2, ob_some, rN0]
  · rw [if_neg (show ¬ (mF M 64 c) = 1 from fun e => s1 ((nI_eq (b := 1) (by omega) (by decide)).mp (stx.symm.trans e)))]
    have hs1' : ¬ (mF A 768 (342 + 4 * k)) = 1 := fun e => s1 ((nI_eq (b := 1) (by omega) (by decide)).mp (hS.st.symm.trans e))
    unfold fX16_acknowledgement fX9_isAcknowledged
    rw [gI_ok hA, ob_some, if_neg hs1', gI_ok o323, ob_some, gI_ok hA, ob_some, m_behind, b2_some, if01, gR_ok o317, ob_some, xw_g579_317 hW, gI_ok o3, ob_some, gI_ok c1, ob_some, ← hG.ak, ← hE.max]
    by_cases p : (mF A 1059 323) - (mF A 774 (342 + 4 * k)) ≤ 0
    · simp only [if_pos p, gI_ok o323, gI_ok hA, gR_ok o317, xw_g579_317 hW, gI_ok o3, gI_ok c1, ob_some, m_behind, b2_some, if01, ← hG.ak, ← hE.una]
      by_cases q : (mF A 1059 323) - (mF A 772 (342 + 4 * k)) ≤ 0
      · simp only [if_pos q, rc_ok o317, ob_some]
        have nodup : ∃ A' M' T' b, fX16_acknowledgement_L151 fu 323 (some (342 + 4 * k)) A = some (b, A') ∧ fX9_isAcknowledged_L91 fu 317 (some c) M = some (b, M') ∧ T ≤ T' ∧ T' ≤ T + 1 ∧ AckR KN KS (t + 1) T' im ig k c nw A M A' M' b := by
          obtain ⟨A', M', b, r1, r2, r3⟩ := sp_atail fu h1.tb hk hE hP h1.ci (h1.cw s1) hr hG
          exact ⟨A', M', T, b, r1, r2, Nat.le_refl _, by omega, r3⟩
        have dup : (v 1) < (v 3) → ∃ A' M' T' b, (fX16_duplicate fu 323 (some (342 + 4 * k)) A).bind (fun M22 => fX16_acknowledgement_L151 fu 323 (some (342 + 4 * k)) M22) = some (b, A') ∧ (b2 (fX5_countDuplicate fu (c + 5) ((mF M 70 c) - (mF M 68 c)) M) fun v15 M14 => if v15 = 0 then fX9_isAcknowledged_L91 fu 317 (some c) M14 else (gI M14 1 68 (some c)).bind fun v16 => (rc M14 1 (some c)).bind fun q17 => b2 (fX1_goesAgain fu q17 M14) fun v19 M18 => (rc M18 9 (some 317)).bind fun q20 => (fX9_sendPart fu q20 (some c) v16 v19 M18).bind fun M21 => fX9_isAcknowledged_L91 fu 317 (some c) M21) = some (b, M') ∧ T ≤ T' ∧ T' ≤ T + 1 ∧ AckR KN KS (t + 1) T' im ig k c nw A M A' M' b := fun hu => by
          obtain ⟨A1, M1, T', v1, r1, r2, r3, r4, r5, r6, r7, r8, r9, r10⟩ := sp_dup fu hfu h1 hk hT2 s1 hu
          obtain ⟨A', M', b, w1, w2, w3⟩ := sp_atail fu r5.tb hk r5.ce r5.cp r5.ci (r5.cw (by omega)) r5.cr (SG_fr hW h.cn r6 r7 hG)
          refine ⟨A', M', T', b, by rw [r1, ob_some]; exact w1, ?_, r3, r4, w3.pre r6 r7⟩
          rw [r2]; exact w2
        unfold fX9_isDuplicate
        simp only [gR_ok o317, xw_g579_317 hW, gI_ok o3, gI_ok c1, gI_ok hA, gI_ok o323, rc_ok o3, rc_ok o323, ob_some, m_extent fu hR hG.dl, x_span fu hW hG, b2_some, ← hG.ak, ← hE.una, ← hE.max, ← hE.wi, hG.wi, hG.wx, m_before, if10]
        by_cases e1 : (mF A 1059 323) = (mF A 772 (342 + 4 * k))
        · simp only [if_pos e1]
          by_cases e2 : nI (exN A dl) = 0
          · simp only [if_pos e2]
            by_cases e3 : nI w = (mF A 775 (342 + 4 * k))
            · simp only [if_pos e3]
              by_cases e4 : (mF A 772 (342 + 4 * k)) - (mF A 774 (342 + 4 * k)) < 0
              · have e4' : ¬ 0 ≤ (mF A 772 (342 + 4 * k)) - (mF A 774 (342 + 4 * k)) := Int32.not_le.mpr e4
                have hu : (v 1) < (v 3) := by
                  rw [hI.una, hI.max] at e4'
                  have := (bef_nI (b := b0) (x := (v 1)) (y := (v 3)) (by omega) (by omega))
                  have : ¬ (v 3) ≤ (v 1) := fun e => e4' (this.mpr e)
                  omega
                simp only [if_pos e4, if_neg e4', rN1, b2_some, if_neg one0, gR_ok c1, hC.2.2.2.1, ob_some, rc_ok hC.2.2.2.2.2.2.2.2.2.2.2.2.2, gI_ok c1]
                have := dup hu
                exact this
              · have e4' : 0 ≤ (mF A 772 (342 + 4 * k)) - (mF A 774 (342 + 4 * k)) := Int32.not_lt.mp e4
                simp only [if_neg e4, if_pos e4', rN0, b2_some, if_true]
                exact nodup
            · simp only [if_neg e3, rN0, b2_some, if_true]
              exact nodup
          · simp only [if_neg e2, rN0, b2_some, if_true]
            exact nodup
        · simp only [if_neg e1, rN0, b2_some, if_true]
          exact nodup
      · rw [if_neg q, if_neg q, rc_ok o323, ob_some, rc_ok o317, ob_some]
        rw [hI.max] at p
        rw [hI.una] at q
        obtain ⟨u', e1, e2, e3⟩ := ack_mid (by omega) (by omega) p q
        obtain ⟨A1, M1, v1, r1, r2, r3, r4, r5, r6, r7, r8, r9, g0, g1, g2, g3, g4, g5, g6, g7, g8, g9, g10, g11, g12, g13⟩ := fresh u' e1 e2 e3
        have hw : CW A1 k nw b0 v1 := by
          have u1 := hS.sN1 s1
          refine CW.mk ?_ ⟨by omega, by omega⟩ (by omega) (fun e => ?_) (fun e => ?_) (fun e => ?_) ⟨by rw [g8]; exact g10, by omega, fun _ _ _ _ => by omega⟩ (fun e => ?_)
          · rw [g12 768 (by omega), g0]; exact hS.st
          · rw [g7]; exact hS.s27 (by omega)
          · rw [g7]; exact (hS.s358 (by omega)).1
          · have := hS.s46 (by omega)
            omega
          · have := hS.s46 (by omega)
            omega
        obtain ⟨A', M', b, w1, w2, w3⟩ := sp_atail fu r3 hk r4 r5 r6 hw r7 (SG_fr hW h.cn r8 r9 hG)
        exact ⟨A', M', T, b, by rw [r1, ob_some]; exact w1, by rw [r2, ob_some]; exact w2, Nat.le_refl _, by omega, w3.pre r8 r9⟩
    · rw [if_neg p, if_neg p, rc_ok o323, ob_some, gI_ok c1, ob_some, rc_ok o317, ob_some]
      obtain ⟨A', M', T', r1, r2, r3, r4, r5, r6, r7, r8⟩ := sp_ackn fu hfu h1 hk hT2
      exact ⟨A', M', T', 0, by rw [r1, ob_some, rN0], by rw [r2, ob_some, rN0], r3, r4, r6, r7, Or.inr ⟨rfl, Or.inl ⟨hd, ft, b0, v, r5⟩⟩⟩
end Ack2
