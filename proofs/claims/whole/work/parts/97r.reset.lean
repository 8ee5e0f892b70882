/-! ===== part 97r: resets, plain acknowledgements, the end of a connection, in both ===== -/
section Reset
variable {A A' M M' : Mm}
theorem JL0_cnt {KN KS t T : Nat} (g g' : Nat → Int32) (h : JL0 KN KS t T A M) : JL0 KN KS t T (wA A 330 g) (wA M 305 g') := by
  have h' := h
  obtain ⟨hR, hW, hS, hX, -⟩ := h'
  refine JL0_keep (u := 0) h (by obtain ⟨_, _, _, _, _, q, -⟩ := h.2.2.2.2.2.2.2; omega) hR hW hS hX (fun _ _ _ => rfl) (fun O e => ⟨O, e, Nat.le_refl _, Nat.le_refl _⟩) (fun a ha => mA_wA_ne (by omega)) (fun _ _ _ => rfl) (fun _ _ _ => rfl) (fun p hp => ⟨fun _ _ _ => rfl, mA_wA_ne ?_⟩) (fun a h1 h2 => mA_wA_ne (by omega)) rfl rfl
  have := ok_ne hp (xw_ok304 hW) (by decide)
  omega
/-- a count, in both -/
def cnU (g : Nat → Int32) (i : Nat) : Nat → Int32 := fun j => if j = i then g i + 1 else g j
theorem JN_cnU {i : Nat} (h : JN A M) (hi : i < 8) : JN (wA A 330 (cnU (mA A 330) i)) (wA M 305 (cnU (mA M 305) i)) := fun j hj => by
  rw [mA_wA_self, mA_wA_self]
  unfold cnU
  by_cases q : j = i
  · rw [if_pos q, if_pos q, h i hi]
  · rw [if_neg q, if_neg q]; exact h j hj
theorem m_cnt (hR : RW A) {i : Nat} (hi : i < 8) : gA A 101 (some 330) (nI i) = some (mA A 330 i) ∧ pA A 101 (some 330) (nI i) (mA A 330 i + 1) = some (wA A 330 (cnU (mA A 330) i)) :=
  ⟨gA_ok (rw_ok330 hR) (by rw [rw_ln330 hR]; omega) (by omega), pA_ok (rw_ok330 hR) (by rw [rw_ln330 hR]; omega) (by omega)⟩
theorem x_cnt (hW : XW M) {i : Nat} (hi : i < 8) : gA M 101 (some 305) (nI i) = some (mA M 305 i) ∧ pA M 101 (some 305) (nI i) (mA M 305 i + 1) = some (wA M 305 (cnU (mA M 305) i)) :=
  ⟨gA_ok (xw_ok305 hW) (by rw [xw_ln305 hW]; omega) (by omega), pA_ok (xw_ok305 hW) (by rw [xw_ln305 hW]; omega) (by omega)⟩
/-- a segment that belongs to no connection -/
theorem sp_raw (fu : Nat) (hf : 4000 ≤ fu) {KN KS t T : Nat} (hJ : JL0 KN KS t T A M) (hBA : By A) (hT2 : T < 2 ^ 30) (to sp dp seq ack : Int32) {fl : Nat} (hfl : fl < 32) :
    ∃ A' M' T', fX16_segmentOut fu 323 to sp dp seq ack (nI fl) 0 0 0 A = some A' ∧ (fX9_fillHeader fu 317 sp dp seq ack (nI fl) 0 M).bind (fun M1 => (fX9_sumUp fu 317 to 20 M1).bind fun M4 => fX4_send fu 307 to 6 20 M4) = some M' ∧ T ≤ T' ∧ T' ≤ T + 1 ∧ JL0 KN KS t T' A' M' ∧ FrA A A' ∧ FrM M M' := by
  have hR := hJ.1
  have hW := hJ.2.1
  obtain ⟨p1, -⟩ := hJ.2.2.2.2.1
  have hB331 : ∀ j, isB (mA A 331 j) := fun j => hBA 331 j (rw_ok331 hR).2.2
  have hJ1 := JL0_fr (tS (tA (mA A 331) sp dp seq ack 80 (nI fl) 0) (mF A 1029 323) to (20 + 0)) (JL0_out (tS (tX (mA M 308) sp dp seq ack (nI fl) 0) (mF M 257 307) to (20 + 0)) hJ)
  obtain ⟨A', M', T', z1, z2, z3, z4, z5, z6, z7⟩ := sp_ipOut fu (by omega) (len := 20 + 0) hJ1 (By_wA hBA (fun _ => isB_up2 (isB_tA hB331 _ _ _ _ _ _ _) _ _)) hT2 (by omega) (by omega) (fun j h1 h2 => by
    rw [mA_wA_self, mA_wA_self, p1]
    exact tS_c (fun i h3 h4 => tAX hfl (fun q => by omega)) h1 h2) to 6
  refine ⟨A', M', T', ?_, ?_, z3, z4, z5, (FrA_wA _).tr z6, (FrM_wA _).tr z7⟩
  · have := m_segOut (A := A) hR (fu := fu) (n := 0) (by omega) (by decide) to sp dp seq ack 0 (nI fl)
    rw [z1, ob_some] at this
    exact this
  · rw [x_tcpHead hW, ob_some]
    have hW1 : XW (wA M 308 (tX (mA M 308) sp dp seq ack (nI fl) 0)) := hW
    have := x_sumUp (M := wA M 308 (tX (mA M 308) sp dp seq ack (nI fl) 0)) hW1 (fu := fu) (len := 20) (by omega) (by decide) to
    rw [show (20 : Int32) = nI 20 from rfl, this, ob_some, wA_wA, mA_wA_self]
    exact z2
theorem sp_reset (fu : Nat) (hf : 4000 ≤ fu) {KN KS t T bd da dx dl w : Nat} (hJ : JL0 KN KS t T A M) (hBA : Bd RM TM A) (hBM : Bd RX TX M) (hN : JN A M) (hG : SG A M bd da dx dl w) (hT2 : T < 2 ^ 30) :
    ∃ A' M' T', fX16_reset fu 323 A = some A' ∧ fX9_reset fu 317 M = some M' ∧ T ≤ T' ∧ T' ≤ T + 1 ∧ JL0 KN KS t T' A' M' ∧ Bd RM TM A' ∧ Bd RX TX M' ∧ JN A' M' ∧ FRA A A' ∧ FRM M M' := by
  have hR := hJ.1
  have hW := hJ.2.1
  have o323 := rw_ok323 hR
  have o317 := xw_ok317 hW
  have o314 := xw_ok314 hW
  have hJ1 := JL0_cnt (cnU (mA A 330) 2) (cnU (mA M 305) 2) hJ
  have hN1 := JN_cnU (i := 2) hN (by decide)
  generalize hA1 : wA A 330 (cnU (mA A 330) 2) = A1 at hJ1 hN1
  generalize hM1 : wA M 305 (cnU (mA M 305) 2) = M1 at hJ1 hN1
  have hR1 := hJ1.1
  have hW1 := hJ1.2.1
  have fA1 : FRA A A1 := by subst hA1; exact FRA_330 _
  have fM1 : FRM M M1 := by subst hM1; exact FRM_305 _
  have bA1 : By A1 := by
    subst hA1
    exact By_wA hBA.2.2.2.2 (fun e => absurd ((rw_ok330 hR).2.2.symm.trans e) (by decide))
  have F1 : mF A1 = mF A := by subst hA1; rfl
  have X1 : mF M1 = mF M := by subst hM1; rfl
  have G1 : mG M1 = mG M := by subst hM1; rfl
  have hG1 : SG A1 M1 bd da dx dl w := by
    have n305 := ok_ne hG.bo (xw_ok305 hW) (by decide)
    subst hA1 hM1
    exact SG.mk hG.sd hG.fp hG.tp hG.sq hG.ak hG.fl hG.wi hG.wx hG.w1 hG.dl hG.dlx hG.da hG.dx hG.dal hG.bd hG.bo hG.bl hG.bl2 (by rw [mA_wA_ne (by decide), mA_wA_ne n305]; exact hG.by') hG.b8 hG.t6 hG.t1 hG.t0
  have key : ∀ (seq ack : Int32) (fl : Nat), fl < 32 → ∃ A' M' T', (fX16_segmentOut fu 323 (mF A 1054 323) (mF A 1057 323) (mF A 1056 323) seq ack (nI fl) 0 0 0 A1).bind (fun x => some x) = some A' ∧ (fX9_fillHeader fu 317 (mF M 195 314) (mF M 194 314) seq ack (nI fl) 0 M1).bind (fun x => fX9_reset_L93 fu 317 x) = some M' ∧ T ≤ T' ∧ T' ≤ T + 1 ∧ JL0 KN KS t T' A' M' ∧ JN A' M' ∧ FRA A A' ∧ FRM M M' := by
    intro seq ack fl hfl
    obtain ⟨A', M', T', r1, r2, r3, r4, r5, r6, r7⟩ := sp_raw (A := A1) (M := M1) fu hf hJ1 bA1 hT2 (mF A 1054 323) (mF A 1057 323) (mF A 1056 323) seq ack hfl
    refine ⟨A', M', T', by rw [r1, ob_some], ?_, r3, r4, r5, fun i hi => ?_, fA1.tr r6.ra, fM1.tr r7.rm⟩
    · rw [← hG.tp, ← hG.fp]
      have hhead := x_tcpHead (M := M1) hW1 fu (mF A 1057 323) (mF A 1056 323) seq ack (nI fl) 0
      rw [hhead, ob_some] at r2
      rw [hhead, ob_some]
      unfold fX9_reset_L93
      have oo : okA (wA M1 308 (tX (mA M1 308) (mF A 1057 323) (mF A 1056 323) seq ack (nI fl) 0)) 9 317 := xw_ok317 hW1
      have oo3 : okA (wA M1 308 (tX (mA M1 308) (mF A 1057 323) (mF A 1056 323) seq ack (nI fl) 0)) 3 314 := xw_ok314 hW1
      have gg : mG (wA M1 308 (tX (mA M1 308) (mF A 1057 323) (mF A 1056 323) seq ack (nI fl) 0)) 579 317 = some 314 := xw_g579_317 hW1
      rw [gR_ok oo, ob_some, gg, gI_ok oo3, ob_some, rc_ok oo, ob_some, mF_wA, X1, ← hG.sd]
      have hsum := x_sumUp (M := wA M1 308 (tX (mA M1 308) (mF A 1057 323) (mF A 1056 323) seq ack (nI fl) 0)) (fu := fu) (len := 20) hW1 (by omega) (by decide) (mF A 1054 323)
      rw [show (20 : Int32) = nI 20 from rfl] at r2 ⊢
      obtain ⟨N, n1, n2, n3⟩ : ∃ N, fX9_sumUp fu 317 (mF A 1054 323) (nI 20) (wA M1 308 (tX (mA M1 308) (mF A 1057 323) (mF A 1056 323) seq ack (nI fl) 0)) = some N ∧ XW N ∧ mF N = mF M1 := ⟨_, hsum, hW1, rfl⟩
      rw [n1, ob_some] at r2
      rw [n1, ob_some, gR_ok (xw_ok317 n2), ob_some, gR_ok (xw_ok317 n2), ob_some, xw_g577_317 n2, xw_g579_317 n2, gI_ok (xw_ok314 n2), ob_some, rc_ok (xw_ok307 n2), ob_some, n3, X1, ← hG.sd, r2, ob_some]
    · have e1 : mA A' 330 = mA A1 330 := r6.2.2.2.2.2.1 330 (by omega) (by omega)
      have e2 : mA M' 305 = mA M1 305 := r7.2.2.2.2.2 305 (xw_ok305 hW1).2.1 (by decide) (by omega) (by rw [show 305 - 1 = 304 from rfl, (xw_ok304 hW1).2.2]; decide)
      rw [e1, e2]
      exact hN1 i hi
  have fin : ∀ {A' M' : Mm} {T' : Nat}, fX16_reset fu 323 A = some A' → fX9_reset fu 317 M = some M' → T ≤ T' → T' ≤ T + 1 → JL0 KN KS t T' A' M' → JN A' M' → FRA A A' → FRM M M' → ∃ A' M' T', fX16_reset fu 323 A = some A' ∧ fX9_reset fu 317 M = some M' ∧ T ≤ T' ∧ T' ≤ T + 1 ∧ JL0 KN KS t T' A' M' ∧ Bd RM TM A' ∧ Bd RX TX M' ∧ JN A' M' ∧ FRA A A' ∧ FRM M M' := fun {A' M' T'} r1 r2 r3 r4 r5 r6 r7 r8 => ⟨A', M', T', r1, r2, r3, r4, r5, (oX16_reset fu 323 A hBA (by unfold RM; omega) r1).2, (oX9_reset fu 317 M hBM (by unfold RX; omega) r2).2, r6, r7, r8⟩
  have ha : fX16_reset fu 323 A = if ((mF A 1060 323) &&& 16) = 0 then (fX16_segmentOut fu 323 (mF A 1054 323) (mF A 1057 323) (mF A 1056 323) 0 ((mF A 1058 323) + nI (exN A1 dl)) 20 0 0 0 A1).bind (fun x => some x) else (fX16_segmentOut fu 323 (mF A 1054 323) (mF A 1057 323) (mF A 1056 323) (mF A 1059 323) 0 4 0 0 0 A1).bind (fun x => some x) := by
    unfold fX16_reset
    have m2 := m_cnt hR (i := 2) (by decide)
    rw [gR_ok o323, ob_some, rw_g1041_323 hR, show (2 : Int32) = nI 2 from rfl, m2.1, ob_some, m2.2, ob_some, hA1, rc_ok (rw_ok323 hR1), ob_some, m_is fu hR1, b2_some, if01, F1]
    simp only [gI_ok (rw_ok323 hR1), ob_some, rc_ok (rw_ok323 hR1), m_extent fu hR1 hG1.dl, b2_some, F1]
  have hx : fX9_reset fu 317 M = if ((mF A 1060 323) &&& 16) = 0 then (fX9_fillHeader fu 317 (mF M 195 314) (mF M 194 314) 0 ((mF A 1058 323) + nI (exN A1 dl)) 20 0 M1).bind (fun x => fX9_reset_L93 fu 317 x) else (fX9_fillHeader fu 317 (mF M 195 314) (mF M 194 314) (mF A 1059 323) 0 4 0 M1).bind (fun x => fX9_reset_L93 fu 317 x) := by
    unfold fX9_reset
    have m2 := x_cnt hW (i := 2) (by decide)
    rw [gR_ok o317, ob_some, xw_g576_317 hW, gR_ok (xw_ok304 hW), ob_some, xw_g640_304 hW, show (2 : Int32) = nI 2 from rfl, m2.1, ob_some, m2.2, ob_some, hM1]
    simp only [gR_ok (xw_ok317 hW1), xw_g579_317 hW1, gI_ok (xw_ok314 hW1), rc_ok (xw_ok314 hW1), rc_ok (xw_ok317 hW1), ob_some, x_hasA fu hW1 hG1 16 (by decide), b2_some, if01, x_span fu hW1 hG1, F1, X1, ← hG.sq, ← hG.ak]
  by_cases q : ((mF A 1060 323) &&& 16) = 0
  · rw [if_pos q] at ha hx
    obtain ⟨A', M', T', r1, r2, r3, r4, r5, r6, r7, r8⟩ := key 0 ((mF A 1058 323) + nI (exN A1 dl)) 20 (by decide)
    exact fin (ha.trans r1) (hx.trans r2) r3 r4 r5 r6 r7 r8
  · rw [if_neg q] at ha hx
    obtain ⟨A', M', T', r1, r2, r3, r4, r5, r6, r7, r8⟩ := key (mF A 1059 323) 0 4 (by decide)
    exact fin (ha.trans r1) (hx.trans r2) r3 r4 r5 r6 r7 r8
/-- a plain acknowledgement, in both -/
theorem sp_ackn (fu : Nat) (hf : 4000 ≤ fu) {KN KS t T k c nw im ig hd ft : Nat} {b0 : Int32} {v : Nat → Nat} (h : TK A M KN KS t T im ig k c nw hd ft b0 v) (hk : k < 16) (hT2 : T < 2 ^ 30) :
    ∃ A' M' T', fX16_acknowledge fu 323 (some (342 + 4 * k)) A = some A' ∧ fX9_sendPlain fu 317 (some c) (mF M 69 c) 16 M = some M' ∧ T ≤ T' ∧ T' ≤ T + 1 ∧ TK A' M' KN KS t T' im ig k c nw hd ft b0 v ∧ FCA k A A' ∧ FCM c M M' ∧ (∀ g, g ≠ 805 → g ≠ 807 → g < 896 → mF A' g (342 + 4 * k) = mF A g (342 + 4 * k)) := by
  have hE := h.ce
  have hr := h.cr
  have hC := h.cn
  have hR := h.rw'
  have hW := h.xw
  have hA := rw_cnO hR k hk
  have hst : (mF M 64 c) ≠ 0 := by
    rw [← hE.st, h.cs.st]
    have := h.cs.st1
    exact nI_ne0 (by omega) (by omega)
  obtain ⟨A1, M', T', r1, r2, r3, r4, r5, r6, r7⟩ := sp_sendPlain fu (by omega) h.jl h.ba.2.2.2.2 hT2 hC hk hE.ip hE.po hr.nx (hldX_eq hr) (fl := 16) (by decide) (by decide) (by decide) hst (mF A 773 (342 + 4 * k))
  have r1 : fX16_segmentOut fu 323 (mF A 769 (342 + 4 * k)) 80 (mF A 770 (342 + 4 * k)) (mF A 773 (342 + 4 * k)) (mF A 804 (342 + 4 * k)) 16 ((4096 : Int32) - hldA A k) 0 0 A = some A1 := r1
  have r7 : FrM (payX M c 16) M' := r7
  have hR1 := r5.1
  have hA1 := rw_cnO hR1 k hk
  have hd1 := hr.hd1
  have F1 : ∀ g a, g < 896 → mF A1 g a = mF A g a := fun g a hh => r6.2.2.2.1 g a hh
  have eop : hldA A k = nI hd := hldA_nI hr
  have e4096 : (4096 : Int32) - nI hd = nI (4096 - hd) := nI_sub (x := 4096) hd1
  have eop2 : hldA (sF A1 807 (342 + 4 * k) 0) k = nI hd := by
    rw [← eop]
    unfold hldA
    simp only [mF_sF, reduceIte, Nat.reduceEqDiff, Nat.reduceAdd, Nat.reduceMul, Nat.reduceLT, Nat.reduceLeDiff, and_true, true_and, and_false, false_and, and_self, ne_eq, not_true_eq_false, not_false_eq_true, Option.some.injEq, reduceCtorEq]
    rw [F1 _ _ (by decide), F1 _ _ (by decide), F1 _ _ (by decide)]
  have hpay : fX16_pays fu 323 (some (342 + 4 * k)) A1 = some (sF (sF A1 807 (342 + 4 * k) 0) 805 (342 + 4 * k) (nI (4096 - hd))) := by
    unfold fX16_pays
    rw [pZ_ok hA1 (Or.inl rfl), ob_some, rc_ok (by rw [ok_sF]; exact hA1), ob_some, m_open (A := sF A1 807 (342 + 4 * k) 0) hR1 hk, b2_some, eop2, e4096, pF_ok (by rw [ok_sF]; exact hA1), ob_some]
  generalize hA' : sF (sF A1 807 (342 + 4 * k) 0) 805 (342 + 4 * k) (nI (4096 - hd)) = A' at hpay
  have FA1 : ∀ g a, ¬ ((g = 805 ∨ g = 807) ∧ a = 342 + 4 * k) → mF A' g a = mF A1 g a := fun g a hg => by
    subst hA'
    rw [mF_sF, if_neg (fun e => hg ⟨by omega, e.2⟩), mF_sF, if_neg (fun e => hg ⟨by omega, e.2⟩)]
  have a805 : mF A' 805 (342 + 4 * k) = nI (4096 - hd) := by subst hA'; simp only [mF_sF, reduceIte, Nat.reduceEqDiff, Nat.reduceAdd, Nat.reduceMul, Nat.reduceLT, Nat.reduceLeDiff, and_true, true_and, and_false, false_and, and_self, ne_eq, not_true_eq_false, not_false_eq_true, Option.some.injEq, reduceCtorEq]
  have a807 : mF A' 807 (342 + 4 * k) = 0 := by subst hA'; simp only [mF_sF, reduceIte, Nat.reduceEqDiff, Nat.reduceAdd, Nat.reduceMul, Nat.reduceLT, Nat.reduceLeDiff, and_true, true_and, and_false, false_and, and_self, ne_eq, not_true_eq_false, not_false_eq_true, Option.some.injEq, reduceCtorEq]
  have aS : mS A' = mS A1 := by subst hA'; rfl
  have aG : mG A' = mG A1 := by subst hA'; rfl
  have aB : mB A' = mB A1 := by subst hA'; rfl
  have aA : mA A' = mA A1 := by subst hA'; rfl
  have FA' : ∀ g, ¬ (g = 805 ∨ g = 807 ∨ 896 ≤ g) → mF A' g (342 + 4 * k) = mF A g (342 + 4 * k) := fun g hg => (FA1 g _ (by omega)).trans (F1 g _ (by omega))
  have hWp : XW (payX M c 16) := by rw [show XW (payX M c 16) = XW M from by unfold XW okA; rw [payX_S, payX_G]]; exact hW
  have hCp : CnO (payX M c 16) c := by rw [show CnO (payX M c 16) c = CnO M c from by unfold CnO okA; rw [payX_S, payX_G]]; exact hC
  obtain ⟨z1, z2, z3, z4⟩ := FrM_at hWp hCp r7
  rw [payX_A] at z2 z3 z4
  have ZF : ∀ g o, o = c ∨ o = c + 2 ∨ o = c + 5 → g < 256 ∨ (320 ≤ g ∧ g < 640) → ¬ ((g = 2 ∨ g = 4) ∧ o = c + 2) → mF M' g o = mF M g o := fun g o h1 h2 h3 => (z1 g o h1 h2).trans (payX_F (fun e => h3 ⟨Or.inl e.1, e.2⟩) (fun e => h3 ⟨Or.inr e.1, e.2⟩))
  have told' : (mF M' 2 (c + 2)) = nI (4096 - hd) := by
    rw [z1 2 (c + 2) (Or.inr (Or.inl rfl)) (Or.inl (by decide))]
    unfold payX
    rw [if_pos (by decide)]
    simp only [mF_sF, reduceIte, Nat.reduceEqDiff, Nat.reduceAdd, Nat.reduceMul, Nat.reduceLT, Nat.reduceLeDiff, and_true, true_and, and_false, false_and, and_self, ne_eq, not_true_eq_false, not_false_eq_true, Option.some.injEq, reduceCtorEq]
    rw [← hldX_eq hr, eop, e4096]
  have owed' : (mF M' 4 (c + 2)) = 0 := by
    rw [z1 4 (c + 2) (Or.inr (Or.inl rfl)) (Or.inl (by decide))]
    unfold payX
    rw [if_pos (by decide)]
    simp only [mF_sF, reduceIte, Nat.reduceEqDiff, Nat.reduceAdd, Nat.reduceMul, Nat.reduceLT, Nat.reduceLeDiff, and_true, true_and, and_false, false_and, and_self, ne_eq, not_true_eq_false, not_false_eq_true, Option.some.injEq, reduceCtorEq]
  have AA : ∀ a, (a < 331 ∨ 334 < a) → (a < 422 ∨ 438 ≤ a) → mA A' a = mA A a := fun a h1 h2 => by rw [aA]; exact r6.2.2.2.2.2.1 a h1 h2
  have run : fX16_acknowledge fu 323 (some (342 + 4 * k)) A = some A' := by
    unfold fX16_acknowledge
    rw [gI_ok hA, ob_some, gI_ok hA, ob_some, gI_ok hA, ob_some, gI_ok hA, ob_some, rc_ok hA, ob_some, m_open hR hk, b2_some, rc_ok (rw_ok323 hR), ob_some, r1, ob_some, rc_ok (rw_ok323 hR1), ob_some, hpay, ob_some]
  have runx : fX9_sendPlain fu 317 (some c) (mF M 69 c) 16 M = some M' := by rw [← hE.at']; exact r2
  have fM : FRM (payX M c 16) M' := r7.rm
  have fMc : FCM c M M' := FCM.tr (M' := payX M c 16) ⟨by rw [payX_S]; exact Nat.le_refl _, fun a _ => by rw [payX_S]; exact ⟨rfl, rfl⟩, fun g a _ _ => by rw [payX_G], fun a _ _ => by rw [payX_B], fun g a _ hh => payX_F (fun e => hh (by unfold PCx; omega)) (fun e => hh (by unfold PCx; omega)), fun a _ _ => by rw [payX_A]⟩ fM.cm
  have fAc : FCA k A A' := FCA.tr r6.ca ⟨aS, aG, aB, fun f a n => FA1 f a (fun e => n (by unfold PCa; omega)), fun a _ => by rw [aA], by rw [FA1 1049 323 (by omega)]; exact Int32.le_refl _⟩
  have hC' : CnO M' c := CnO_fr fMc hC
  have hdA : mA A' (343 + 4 * k) = mA A (343 + 4 * k) := AA _ (by omega) (by omega)
  have FC' : ∀ g, ¬ (256 ≤ g) → mF M' g c = mF M g c := fun g hg => ZF g c (Or.inl rfl) (by omega) (by omega)
  refine ⟨A', M', T', run, runx, r3, r4, ?_, fAc, fMc, fun g h1 h2 h3 => FA' g (by omega)⟩
  refine TK.mk ?_ (oX16_acknowledge fu 323 _ A h.ba (by unfold RM; omega) (inR_some (by unfold RM; omega)) run).2 (oX9_sendPlain fu 317 _ _ _ M h.bm (by unfold RX; omega) (inR_some (h.bm.1 c 1 hC.1 (by unfold TX; omega))) runx).2 ?_ ?_ hC' ?_ ?_ ?_ ?_ ?_ ?_ h.n2
  · exact JL0_cn (A := A1) (M := M') r5 hC' aS aG aB (fun g a hh => FA1 g a (fun e => by unfold JLf at hh; omega)) (fun a _ => by rw [aA]) rfl rfl rfl (fun _ _ _ _ _ _ => rfl) (fun _ _ _ _ _ _ _ _ => rfl)
  · intro i hi
    have e2 : mA M' 305 = mA M 305 := by
      have h1 : mA M' 305 = mA (payX M c 16) 305 := r7.2.2.2.2.2 305 (xw_ok305 hWp).2.1 (by decide) (by omega) (by rw [show 305 - 1 = 304 from rfl, (xw_ok304 hWp).2.2]; decide)
      rw [h1, payX_A]
    rw [AA 330 (by omega) (by omega), e2]
    exact h.jn i hi
  · have hJI : JI im ig A (payX M c 16) := by
      obtain ⟨y1, y2, y3, y4, y5, y6⟩ := h.ji
      unfold JI okA
      rw [payX_S, payX_G, payX_A]
      exact ⟨y1, y2, y3, y4, y5, y6⟩
    have hJ1 := JI_fr hWp r6.ra fM hJI
    obtain ⟨y1, y2, y3, y4, y5, y6⟩ := hJ1
    exact ⟨y1, y2, y3, y4, by rw [aA]; exact y5, y6⟩
  · have hdM := z2
    refine CE.mk ?_ ?_ ?_ ?_ ?_ ?_ ?_ ?_ ?_ ?_ ?_ ?_ ?_ ?_ ?_ ?_ ?_ ?_
    · exact (FA' 768 (by omega)).trans (hE.st.trans (FC' 64 (by omega)).symm)
    · exact (FA' 769 (by omega)).trans (hE.ip.trans (FC' 65 (by omega)).symm)
    · exact (FA' 770 (by omega)).trans (hE.po.trans (FC' 66 (by omega)).symm)
    · exact (FA' 771 (by omega)).trans (hE.is.trans (FC' 67 (by omega)).symm)
    · exact (FA' 772 (by omega)).trans (hE.una.trans (FC' 68 (by omega)).symm)
    · exact (FA' 773 (by omega)).trans (hE.at'.trans (FC' 69 (by omega)).symm)
    · exact (FA' 774 (by omega)).trans (hE.max.trans (FC' 70 (by omega)).symm)
    · exact (FA' 775 (by omega)).trans (hE.wi.trans (FC' 71 (by omega)).symm)
    · exact (FA' 776 (by omega)).trans (hE.w1.trans (FC' 82 (by omega)).symm)
    · exact (FA' 777 (by omega)).trans (hE.w2.trans (FC' 83 (by omega)).symm)
    · exact (FA' 794 (by omega)).trans (hE.hl.trans (FC' 78 (by omega)).symm)
    · exact (FA' 796 (by omega)).trans (hE.bl.trans (FC' 76 (by omega)).symm)
    · rw [FA' 796 (by omega), FA' 795 (by omega), FC' 75 (by omega)]; exact hE.bp
    · exact (FA' 797 (by omega)).trans (hE.bg.trans (FC' 77 (by omega)).symm)
    · exact (FA' 798 (by omega)).trans (hE.cl.trans (FC' 74 (by omega)).symm)
    · rw [FA' 768 (by omega), FA' 812 (by omega), FC' 73 (by omega)]; exact hE.la
    · rw [FA' 768 (by omega), FA' 813 (by omega), FC' 72 (by omega)]; exact hE.li
    · rw [FA' 794 (by omega), hdA, hdM]; exact hE.hd
  · exact CP_congr (fun f h1 h2 => FA' f (by omega)) (fun f h1 h2 => ZF f _ (Or.inr (Or.inr rfl)) (by omega) (by omega)) h.cp
  · exact CI_congr (fun f h1 h2 => FA' f (by omega)) h.ci
  · have hS := h.cs
    refine CS.mk ?_ ?_ ?_ ?_ ?_ ?_ ?_ ?_ ?_
    · exact (FA' 768 (by omega)).trans hS.st
    · exact hS.st1
    · rw [FA' 771 (by omega), FA' 786 (by omega)]; exact hS.s1
    · exact hS.sN1
    · exact hS.s27
    · exact hS.s358
    · exact hS.s46
    · rw [FA' 812 (by omega)]; exact hS.la
    · rw [FA' 813 (by omega)]; exact hS.si
  · exact CR_upd (fun g hh => FA' g (by omega)) (AA _ (by omega) (by omega)) (AA _ (by omega) (by omega)) (fun g h1 h2 h3 => ZF g _ (Or.inr (Or.inl rfl)) (by omega) (by omega)) z3 z4 (a805.trans told'.symm) ⟨4096 - hd, by omega, a805⟩ (a807.trans owed'.symm) (by rw [FA' 768 (by omega)]; exact hr.st) hr
  · rw [FA1 _ _ (by omega), r6.2.2.2.2.1 _ _ (by decide) (by decide) (by decide) (by decide)]; exact h.nw
/-- the connection is gone, in both -/
theorem sp_gone (fu : Nat) {KN KS t T k c nw im ig hd ft : Nat} {b0 : Int32} {v : Nat → Nat} (h : TK A M KN KS t T im ig k c nw hd ft b0 v) (hk : k < 16) :
    ∃ A' M', fX16_gone fu 323 (some (342 + 4 * k)) A = some A' ∧ fX1_leave fu c M = some M' ∧ TD A' M' KN KS t T im ig k c nw ∧ FCA k A A' ∧ FCM c M M' := by
  have hA := rw_cnO h.rw' k hk
  have hC := h.cn
  have c1 := hC.1
  have c4 := hC.2.2.2.1
  have c14 := hC.2.2.2.2.2.2.2.2.2.2.2.2.2
  have ra : fX16_gone fu 323 (some (342 + 4 * k)) A = some (sF (sF A 768 (342 + 4 * k) 0) 789 (342 + 4 * k) 0) := by
    unfold fX16_gone
    rw [pF_ok hA, ob_some, pZ_ok (by rw [ok_sF]; exact hA) (Or.inl rfl), ob_some]
  have rx : fX1_leave fu c M = some (sF (sF M 64 c 0) 324 (c + 5) 2147483647) := by
    unfold fX1_leave
    rw [pF_ok c1, ob_some, gR_ok (by rw [ok_sF]; exact c1), ob_some, mG_sF, c4, pF_ok (by rw [ok_sF]; exact c14), ob_some]
  obtain ⟨⟨z1, z2, z3, z4, z5, z6, z7⟩, z8, z9⟩ := TK_base (A' := sF (sF A 768 (342 + 4 * k) 0) 789 (342 + 4 * k) 0) (M' := sF (sF M 64 c 0) 324 (c + 5) 2147483647) (u := 0) h h.t1000 rfl rfl rfl rfl (fun f a hh => by rw [mF_sF, if_neg (by omega), mF_sF, if_neg (by omega)]) rfl rfl rfl rfl (fun f a h1 _ h5 => by rw [mF_sF, if_neg (fun e => h5 e.2), mF_sF, if_neg (fun e => h1 e.2)])
  refine ⟨_, _, ra, rx, TD.mk z1 z2 z3 z4 z5 z6 ?_ ?_ z7 h.n2, z8, z9⟩
  · simp only [mF_sF, reduceIte, Nat.reduceEqDiff, Nat.reduceAdd, Nat.reduceMul, Nat.reduceLT, Nat.reduceLeDiff, and_true, true_and, and_false, false_and, and_self, ne_eq, not_true_eq_false, not_false_eq_true, Option.some.injEq, reduceCtorEq]
  · simp only [mF_sF, reduceIte, Nat.reduceEqDiff, Nat.reduceAdd, Nat.reduceMul, Nat.reduceLT, Nat.reduceLeDiff, and_true, true_and, and_false, false_and, and_self, ne_eq, not_true_eq_false, not_false_eq_true, Option.some.injEq, reduceCtorEq]
end Reset
