/-! ===== part 97j: data go out, in both ===== -/
section Data3
variable {A M : Mm}
/-- what the link level leaves of a connection -/
theorem FrM_at {N M' : Mm} {c : Nat} (hW : XW N) (hC : CnO N c) (h : FrM N M') : (∀ f o, o = c ∨ o = c + 2 ∨ o = c + 5 → f < 256 ∨ (320 ≤ f ∧ f < 640) → mF M' f o = mF N f o) ∧ mA M' (c + 1) = mA N (c + 1) ∧ mA M' (c + 3) = mA N (c + 3) ∧ mA M' (c + 4) = mA N (c + 4) := by
  obtain ⟨c1, c2, c3, c4, c5, c6, c7, c8, c9, c10, c11, c12, c13, c14⟩ := hC
  obtain ⟨b1, b2, b3, b4, b5, b6⟩ := h
  refine ⟨fun f o ho hf => ?_, ?_, ?_, ?_⟩
  · rcases ho with rfl | rfl | rfl
    · exact b5 _ _ c1.2.1 (by rw [c1.2.2]; decide) (by omega) (by omega)
    · exact b5 _ _ c7.2.1 (by rw [c7.2.2]; decide) (by omega) (by omega)
    · exact b5 _ _ c14.2.1 (by rw [c14.2.2]; decide) (by omega) (by omega)
  · refine b6 _ c5.2.1 (fun e => ?_) (n100 hW c5) (by rw [Nat.add_sub_cancel, c1.2.2]; decide)
    have : c = 307 := by omega
    subst this
    exact absurd (c1.2.2.symm.trans (xw_ok307 hW).2.2) (by decide)
  · refine b6 _ c10.2.1 (fun e => ?_) (n100 hW c10) (by rw [show c + 3 - 1 = c + 2 by omega, c7.2.2]; decide)
    have : c = 305 := by omega
    subst this
    exact absurd (c1.2.2.symm.trans (xw_ok305 hW).2.2) (by decide)
  · have n4 : c ≠ 304 := fun e => by subst e; exact absurd (c1.2.2.symm.trans (xw_ok304 hW).2.2) (by decide)
    have n5 : c ≠ 305 := fun e => by subst e; exact absurd (c1.2.2.symm.trans (xw_ok305 hW).2.2) (by decide)
    have n6 : c ≠ 306 := fun e => by subst e; exact absurd (c1.2.2.symm.trans (xw_ok306 hW).2.2) (by decide)
    have n7 : c ≠ 307 := fun e => by subst e; exact absurd (c1.2.2.symm.trans (xw_ok307 hW).2.2) (by decide)
    have n8 : c ≠ 308 := fun e => by subst e; exact absurd (c1.2.2.symm.trans (xw_ok308 hW).2.2) (by decide)
    exact b6 _ c12.2.1 (by omega) (by omega) (by rw [show c + 4 - 1 = c + 3 by omega, c10.2.2]; decide)
theorem sp_dataOut0 (fu : Nat) (hfu : 4000 ≤ fu) {KN KS t T k c nw im ig f n fi hd ft : Nat} {b0 : Int32} {v w : Nat → Nat} (hJ : JL0 KN KS t T A M) (hBA : Bd RM TM A) (hBM : Bd RX TX M) (hT2 : T < 2 ^ 30) (hk : k < 16) (hC : CnO M c) (hE : CE A M k c) (hP : CQ A M k c) (hI : CIw A k nw t im b0 v) (hS : CS A k nw b0 v) (hr : CR A M k c hd ft) (hN : JN A M) (hJI : JI im ig A M) (hnw : (mF A 1034 323) = nI nw) (hn2 : nw ≤ 2000000000) (hst : sendSt (v 0)) (hs : segOk v f n fi) (hw : ntd v w nw f) :
    ∃ A' M' T', fX16_dataOut fu 323 (some (342 + 4 * k)) (b0 + nI f) (nI n) (nI fi) A = some A' ∧ fX9_sendPart fu 317 (some c) (b0 + nI f) (nI (n + fi)) M = some M' ∧ T ≤ T' ∧ T' ≤ T + 1 ∧ JL0 KN KS t T' A' M' ∧ Bd RM TM A' ∧ Bd RX TX M' ∧ JN A' M' ∧ JI im ig A' M' ∧ CnO M' c ∧ CE A' M' k c ∧ (CQ A' M' k c ∧ (∀ g, g = 321 ∨ g = 327 → mF M' g (c + 5) = mF M g (c + 5)) ∧ (mF A' 790 (342 + 4 * k)) = (mF M' 324 (c + 5))) ∧ CR A' M' k c hd ft ∧ FCA k A A' ∧ FCM c M M' ∧ (mF A' 768 (342 + 4 * k)) = nI (nst v fi) ∧ (mF A' 799 (342 + 4 * k)) = nI (if fi = 1 then 1 else (v 8)) ∧ (mF A' 785 (342 + 4 * k)) = nI (w 16) ∧ ((w 16) = 1 → (mF A' 787 (342 + 4 * k)) = b0 + nI (w 17) ∧ (mF A' 788 (342 + 4 * k)) = nI (w 18)) ∧ (mF A' 789 (342 + 4 * k)) = nI 1 ∧ (mF A' 790 (342 + 4 * k)) = nI (w 15) ∧ (∀ g, ¬ (g = 768 ∨ g = 785 ∨ g = 787 ∨ g = 788 ∨ g = 789 ∨ g = 790 ∨ g = 799 ∨ g = 805 ∨ g = 807) → g < 896 → mF A' g (342 + 4 * k) = mF A g (342 + 4 * k)) := by
  have hR := hJ.1
  have hW := hJ.2.1
  have hA := rw_cnO hR k hk
  have hC' := hC
  obtain ⟨c1, c2, c3, c4, c5, c6, c7, c8, c9, c10, c11, c12, c13, hM⟩ := hC'
  have one0 : ¬ (1 : Int32) = 0 := by decide
  have b1 := hI.hl1
  have b2' := hI.bl1
  have hms1 := hI.ms1
  obtain ⟨nq, pn1, pn2, pn3⟩ := hJ.2.2.2.2.1.2.2.2.2.1
  have enow : (mF M 641 304) = nI nw := pn2.trans (pn1.symm.trans hnw)
  have hJI' := hJI
  obtain ⟨i1, i2, i3, i4, i5, i6, i7, i8, i9, i10, i11, i12⟩ := hJI'
  have c305 : ∀ a, okA M 100 a → a ≠ 305 := fun a h e => by subst e; exact absurd (h.2.2.symm.trans (xw_ok305 hW).2.2) (by decide)
  have hs' := hs
  obtain ⟨hf1, hfm, hnm, hfn, hfi, hpos, -⟩ := hs'
  have hp := pshOf_le v f n
  obtain ⟨fl1, fl2, fl3, fl4⟩ := flag4 hp hfi
  have hns := nst_send (fi := fi) hst
  -- the class up to the notes
  have hWg : XW (sF M 64 c (nI (nst v fi))) := hW
  have hPg : CQ A (sF M 64 c (nI (nst v fi))) k c := CQ_64 hP
  obtain ⟨M1, x1, x2, x3, x4, x5, x6, x7, x8, x9⟩ := x_noted (A := A) (M := sF M 64 c (nI (nst v fi))) fu hWg hC hPg (by rw [mF_sF, if_neg (by omega)]; exact hE.max.symm.trans hI.max) hI hn2 (by rw [mF_sF, if_neg (by omega)]; exact enow) hfm hw (nI n) (nI (16 + 8 * pshOf v f n + fi))
  have hcls : fX9_sendPart fu 317 (some c) (b0 + nI f) (nI (n + fi)) M = fX9_sendPart_L147 fu 317 (some c) (b0 + nI f) (nI n) (nI (16 + 8 * pshOf v f n + fi)) M1 := by
    rw [← x1, x_spHead (A := A) fu c1 hE hI hs, x_spFin (A := A) fu c1 hE hS hst hfi (by omega)]
  have M1F : ∀ g a, ¬ (g = 64 ∧ a = c) → ¬ ((g = 324 ∨ g = 328 ∨ g = 329 ∨ g = 330) ∧ a = c + 5) → mF M1 g a = mF M g a := fun g a h1 h2 => (x6 g a h2).trans (by rw [mF_sF, if_neg h1])
  have M1A : ∀ a, a ≠ 305 → mA M1 a = mA M a := fun a h => by
    rw [x5]
    split
    · exact mA_wA_ne h
    · rfl
  have xS : mS M1 = mS M := x2
  have xG : mG M1 = mG M := x3
  have xB : mB M1 = mB M := x4
  have hC1 : CnO M1 c := by rw [show CnO M1 c = CnO M c from by unfold CnO okA; rw [xS, xG]]; exact hC
  have hW1 : XW M1 := by rw [show XW M1 = XW M from by unfold XW okA; rw [xS, xG]]; exact hW
  have hJ1 : JL0 KN KS t T A M1 := JL0_cn hJ hC rfl rfl rfl (fun _ _ _ => rfl) (fun _ _ => rfl) xS xG xB (fun g a h1 h2 h3 _ => M1F g a (fun e => h1 e.2) (fun e => h3 e.2)) (fun a _ _ _ h4 _ _ _ => M1A a h4)
  have hBy1 : By M1 := fun a i h => by
    have h' : sTy (mS M) a = 100 := by rw [← xS]; exact h
    have : a ≠ 305 := fun e => by subst e; exact absurd (h'.symm.trans (xw_ok305 hW).2.2) (by decide)
    rw [M1A a this]
    exact hBM.2.2.2.2 a i h'
  have eo : (b0 + nI f) - (mF M1 77 c) = nI (f - 1) := by
    rw [M1F _ _ (by omega) (by omega), ← hE.bg, hI.bg, show b0 + (1 : Int32) = b0 + nI 1 from rfl, sub_b0, nI_sub hf1]
  have hxc := x_copy (M := M1) fu hW1 hBy1 (im := im) (ig := ig) (hl := (v 4)) (bl := (v 5)) (bp := (v 6)) (o := f - 1) (n := n) hC1 ((M1F _ _ (by omega) (by omega)).trans (hE.hl.symm.trans hI.hl)) (fun q => by
    obtain ⟨r1, r2⟩ := hI.bp q
    refine ⟨(M1F _ _ (by omega) (by omega)).trans ((hE.bp ?_).symm.trans r1), r2⟩
    rw [hI.bl]
    exact nI_ne0 (by omega) (by omega)) (by rw [xG]; exact i1) (by unfold okA; rw [xS]; exact i2) (by rw [xS]; exact i3) i4 i6 b1 b2' (by omega) hfn (by omega)
  obtain ⟨m, hmc⟩ := m_copy fu hR hBA.2.2.2.2 hk hI i4 hf1 (by omega) hfn (by omega) (nI fi)
  have hE1 : ∀ x, x < (v 4) + (v 5) → ansA A k (v 4) (v 6) x = ansX M1 c ig (v 4) (v 6) x := fun x hx => by
    rw [ans_same hE hI.hl b1 hJI (fun q => (hI.bp q).2) hx]
    unfold ansX
    rw [M1A _ (c305 _ c5), M1A _ (c305 _ i2)]
  have hGB : ∀ j, isB ((fun j => if 54 ≤ j ∧ j < 54 + n then ansA A k (v 4) (v 6) (f - 1 + (j - 54)) else mA A 331 j) j) := fun j => by
    show isB (if 54 ≤ j ∧ j < 54 + n then ansA A k (v 4) (v 6) (f - 1 + (j - 54)) else mA A 331 j)
    split
    · unfold ansA
      split
      · exact hBA.2.2.2.2 _ _ (rw_cnH hR k hk).2.2
      · exact hBA.2.2.2.2 _ _ (rw_ok325 hR).2.2
    · exact hBA.2.2.2.2 _ _ (rw_ok331 hR).2.2
  have hGH : ∀ j, 54 ≤ j → j < 54 + n → (fun j => if 54 ≤ j ∧ j < 54 + n then ansA A k (v 4) (v 6) (f - 1 + (j - 54)) else mA A 331 j) j = (fun j => if 54 ≤ j ∧ j < 54 + n then ansX M1 c ig (v 4) (v 6) (f - 1 + (j - 54)) else mA M1 308 j) j := fun j h1 h2 => by
    show (if 54 ≤ j ∧ j < 54 + n then ansA A k (v 4) (v 6) (f - 1 + (j - 54)) else mA A 331 j) = (if 54 ≤ j ∧ j < 54 + n then ansX M1 c ig (v 4) (v 6) (f - 1 + (j - 54)) else mA M1 308 j)
    rw [if_pos ⟨h1, h2⟩, if_pos ⟨h1, h2⟩]
    exact hE1 _ (by omega)
  generalize (fun j => if 54 ≤ j ∧ j < 54 + n then ansA A k (v 4) (v 6) (f - 1 + (j - 54)) else mA A 331 j) = G at hmc hGB hGH
  generalize (fun j => if 54 ≤ j ∧ j < 54 + n then ansX M1 c ig (v 4) (v 6) (f - 1 + (j - 54)) else mA M1 308 j) = H at hxc hGH
  have hJ2 := JL0_fr G (JL0_out H hJ1)
  have hC2 : CnO (wA M1 308 H) c := hC1
  have hst64 : (mF M1 64 c) = nI (nst v fi) := (x6 64 c (by omega)).trans (by rw [mF_sF, if_pos ⟨rfl, rfl⟩])
  have hal : fX1_allows fu c (nI (16 + 8 * pshOf v f n + fi)) (nI n) (wA M1 308 H) = some (1, wA M1 308 H) := by
    unfold fX1_allows fX1_allows_L66 fX1_allows_L71
    simp only [gI_ok hC2.1, ob_some, mF_wA, hst64, if_pos fl2, rN1, one0, if_false]
    rcases hns with q | q | q | q | q <;> rw [q] <;> rfl
  have ehl : hldX (wA M1 308 H) c = hldX M c := by
    unfold hldX
    rw [mF_wA, M1F _ _ (by omega) (by omega), M1F _ _ (by omega) (by omega), M1F _ _ (by omega) (by omega)]
  obtain ⟨A2, Mf, M', T', y1, y2, y3, y4, y5, y6, y7, y8, y9⟩ := sp_plain fu (by omega) (k := k) (n := n) hJ2 (By_wA hBA.2.2.2.2 (fun _ => hGB)) hT2 hC2 hk (hE.ip.trans (M1F _ _ (by omega) (by omega)).symm) (hE.po.trans (M1F _ _ (by omega) (by omega)).symm) (hr.nx.trans (M1F _ _ (by omega) (by omega)).symm) ((hldX_eq hr).trans ehl.symm) fl1 fl2 (by omega) hal (b0 + nI f) (fun j h1 h2 => by
    rw [mA_wA_self, mA_wA_self]
    exact hGH j h1 h2)
  have F2 : ∀ g a, g < 896 → mF A2 g a = mF A g a := fun g a h => y8.2.2.2.1 g a h
  have now2 : (mF A2 1034 323) = nI nw := (y8.2.2.2.2.1 _ _ (by decide) (by decide) (by decide) (by decide)).trans hnw
  have hR2 : RW A2 := y7.1
  have hA2 := rw_cnO hR2 k hk
  have hd1 := hr.hd1
  have eop : hldA A k = nI hd := hldA_nI hr
  have e4096 : (4096 : Int32) - nI hd = nI (4096 - hd) := nI_sub (x := 4096) hd1
  have eop2 : hldA (sF A2 807 (342 + 4 * k) 0) k = nI hd := by
    rw [← eop]
    unfold hldA
    simp only [mF_sF, reduceIte, Nat.reduceEqDiff, Nat.reduceAdd, Nat.reduceMul, Nat.reduceLT, Nat.reduceLeDiff, and_true, true_and, and_false, false_and, and_self, ne_eq, not_true_eq_false, not_false_eq_true, Option.some.injEq, reduceCtorEq]
    rw [F2 _ _ (by decide), F2 _ _ (by decide), F2 _ _ (by decide)]
  have hpay : fX16_pays fu 323 (some (342 + 4 * k)) A2 = some (sF (sF A2 807 (342 + 4 * k) 0) 805 (342 + 4 * k) (nI (4096 - hd))) := by
    unfold fX16_pays
    rw [pZ_ok hA2 (Or.inl rfl), ob_some, rc_ok (by rw [ok_sF]; exact hA2), ob_some, m_open (A := sF A2 807 (342 + 4 * k) 0) hR2 hk, b2_some, eop2, e4096, pF_ok (by rw [ok_sF]; exact hA2), ob_some]
  have F3 : ∀ g a, ¬ ((g = 805 ∨ g = 807) ∧ a = 342 + 4 * k) → mF (sF (sF A2 807 (342 + 4 * k) 0) 805 (342 + 4 * k) (nI (4096 - hd))) g a = mF A2 g a := fun g a h => by rw [mF_sF, if_neg (fun e => h ⟨by omega, e.2⟩), mF_sF, if_neg (fun e => h ⟨by omega, e.2⟩)]
  have t805 : mF (sF (sF A2 807 (342 + 4 * k) 0) 805 (342 + 4 * k) (nI (4096 - hd))) 805 (342 + 4 * k) = nI (4096 - hd) := by simp only [mF_sF, reduceIte, Nat.reduceEqDiff, Nat.reduceAdd, Nat.reduceMul, Nat.reduceLT, Nat.reduceLeDiff, and_true, true_and, and_false, false_and, and_self, ne_eq, not_true_eq_false, not_false_eq_true, Option.some.injEq, reduceCtorEq]
  have t807 : mF (sF (sF A2 807 (342 + 4 * k) 0) 805 (342 + 4 * k) (nI (4096 - hd))) 807 (342 + 4 * k) = 0 := by simp only [mF_sF, reduceIte, Nat.reduceEqDiff, Nat.reduceAdd, Nat.reduceMul, Nat.reduceLT, Nat.reduceLeDiff, and_true, true_and, and_false, false_and, and_self, ne_eq, not_true_eq_false, not_false_eq_true, Option.some.injEq, reduceCtorEq]
  have ff3 : FF (fun g => g = 805 ∨ g = 807) (342 + 4 * k) A2 (sF (sF A2 807 (342 + 4 * k) 0) 805 (342 + 4 * k) (nI (4096 - hd))) := (FF.s _ (Or.inr rfl)).tr (FF.s _ (Or.inl rfl))
  have hR3 : RW (sF (sF A2 807 (342 + 4 * k) 0) 805 (342 + 4 * k) (nI (4096 - hd))) := hR2
  have a3A : mA (sF (sF A2 807 (342 + 4 * k) 0) 805 (342 + 4 * k) (nI (4096 - hd))) = mA A2 := rfl
  generalize sF (sF A2 807 (342 + 4 * k) 0) 805 (342 + 4 * k) (nI (4096 - hd)) = A3 at hpay F3 t805 t807 ff3 hR3 a3A
  have hI3 : CIw A3 k nw t im b0 v := CIw_congr (A := A) (fun g h1 h2 => (F3 g _ (by omega)).trans (F2 _ _ (by omega))) hI
  obtain ⟨A4, n1, n2, n3, n4, n5, n6, n7, n8, n9, n10⟩ := m_noted (A := A3) fu hR3 hk hI3 ((F3 _ _ (by omega)).trans now2) hfm hw
  have hR4 : RW A4 := by rw [show RW A4 = RW A3 from by unfold RW okA; rw [n2, n3, n4]]; exact hR3
  have hA4 := rw_cnO hR4 k hk
  have F4 : ∀ g, ¬ (g = 785 ∨ g = 787 ∨ g = 788 ∨ g = 789 ∨ g = 790 ∨ g = 805 ∨ g = 807) → g < 896 → mF A4 g (342 + 4 * k) = mF A g (342 + 4 * k) := fun g h h2 => (n6 g _ (fun e => h (by omega))).trans ((F3 g _ (fun e => h (by omega))).trans (F2 g _ h2))
  obtain ⟨A', r1, r2, r3, r4⟩ : ∃ A', (if nI fi = 0 then some A4 else (gI A4 12 799 (some (342 + 4 * k))).bind fun v13 => if v13 = 0 then ((pZ A4 12 799 (some (342 + 4 * k)) (1 : Int32)).bind fun M14 => (gI M14 12 768 (some (342 + 4 * k))).bind fun v15 => if v15 = (2 : Int32) then ((pF M14 12 768 (some (342 + 4 * k)) (3 : Int32)).bind fun M17 => some M17) else ((pF M14 12 768 (some (342 + 4 * k)) (8 : Int32)).bind fun M16 => some M16)) else some A4) = some A' ∧ FF (fun g => g = 768 ∨ g = 799) (342 + 4 * k) A4 A' ∧ (mF A' 768 (342 + 4 * k)) = nI (nst v fi) ∧ (mF A' 799 (342 + 4 * k)) = nI (if fi = 1 then 1 else (v 8)) := by
    have e99 : (mF A4 799 (342 + 4 * k)) = nI (v 8) := (F4 799 (by omega) (by decide)).trans hI.fn
    have e68 : (mF A4 768 (342 + 4 * k)) = nI (v 0) := (F4 768 (by omega) (by decide)).trans hS.st
    unfold nst
    by_cases q : fi = 1
    · subst q
      rw [if_neg (show ¬ nI 1 = 0 by decide), gI_ok hA4, ob_some, e99, if_pos rfl]
      by_cases q2 : (v 8) = 0
      · rw [q2, if_pos (show nI 0 = 0 from rfl), if_pos ⟨rfl, rfl⟩, pZ_ok hA4 (Or.inr rfl), ob_some, gI_ok (by rw [ok_sF]; exact hA4), ob_some, show mF (sF A4 799 (342 + 4 * k) 1) 768 (342 + 4 * k) = nI (v 0) from by rw [mF_sF, if_neg (by omega)]; exact e68, pF_ok (by rw [ok_sF]; exact hA4), ob_some, pF_ok (by rw [ok_sF]; exact hA4), ob_some]
        by_cases q3 : (v 0) = 2
        · rw [q3, if_pos (show nI 2 = (2 : Int32) from rfl), if_pos rfl]
          exact ⟨_, rfl, (FF.s _ (Or.inr rfl)).tr (FF.s _ (Or.inl rfl)), by simp only [mF_sF, reduceIte, Nat.reduceEqDiff, Nat.reduceAdd, Nat.reduceMul, Nat.reduceLT, Nat.reduceLeDiff, and_true, true_and, and_false, false_and, and_self, ne_eq, not_true_eq_false, not_false_eq_true, Option.some.injEq, reduceCtorEq]; rfl, by simp only [mF_sF, reduceIte, Nat.reduceEqDiff, Nat.reduceAdd, Nat.reduceMul, Nat.reduceLT, Nat.reduceLeDiff, and_true, true_and, and_false, false_and, and_self, ne_eq, not_true_eq_false, not_false_eq_true, Option.some.injEq, reduceCtorEq]; rfl⟩
        · have hs1 := hS.st1
          rw [if_neg (show ¬ nI (v 0) = (2 : Int32) from fun e => q3 ((nI_eq (b := 2) (by omega) (by decide)).mp e)), if_neg q3]
          exact ⟨_, rfl, (FF.s _ (Or.inr rfl)).tr (FF.s _ (Or.inl rfl)), by simp only [mF_sF, reduceIte, Nat.reduceEqDiff, Nat.reduceAdd, Nat.reduceMul, Nat.reduceLT, Nat.reduceLeDiff, and_true, true_and, and_false, false_and, and_self, ne_eq, not_true_eq_false, not_false_eq_true, Option.some.injEq, reduceCtorEq]; rfl, by simp only [mF_sF, reduceIte, Nat.reduceEqDiff, Nat.reduceAdd, Nat.reduceMul, Nat.reduceLT, Nat.reduceLeDiff, and_true, true_and, and_false, false_and, and_self, ne_eq, not_true_eq_false, not_false_eq_true, Option.some.injEq, reduceCtorEq]; rfl⟩
      · have hfn1 := hI.fn1
        rw [if_neg (nI_ne0 (by omega) (by omega)), if_neg (fun e => q2 e.2)]
        exact ⟨A4, rfl, FF.rf, e68, by rw [e99, show (v 8) = 1 by omega]⟩
    · have q0 : fi = 0 := by omega
      subst q0
      rw [if_pos (show nI 0 = 0 from rfl), if_neg (fun e => absurd e.1 (by decide)), if_neg (by decide)]
      exact ⟨A4, rfl, FF.rf, e68, e99⟩
  have hra : fX16_dataOut fu 323 (some (342 + 4 * k)) (b0 + nI f) (nI n) (nI fi) A = some A' := by
    have hRc : RW (wA A 331 G) := hR
    have hAc : okA (wA A 331 G) 12 (342 + 4 * k) := hA
    have hIc : CIw (wA A 331 G) k nw t im b0 v := hI
    have hSc : CS (wA A 331 G) k nw b0 v := hS
    rw [hmc, m_doHead fu hRc hk hIc hSc hst hs]
    unfold fX16_dataOut_L113
    rw [gI_ok hAc, ob_some, gI_ok hAc, ob_some, gI_ok hAc, ob_some, rc_ok hAc, ob_some, m_open hRc hk, b2_some, rc_ok (rw_ok323 hRc), ob_some, y1, ob_some, rc_ok (rw_ok323 hR2), ob_some, hpay, ob_some, rc_ok (rw_ok323 hR3), ob_some, n1, ob_some]
    exact r1
  have hrx : fX9_sendPart fu 317 (some c) (b0 + nI f) (nI (n + fi)) M = some M' := by
    have hWc : XW (wA M1 308 H) := hW1
    rw [hcls]
    unfold fX9_sendPart_L147
    rw [gI_ok hC1.1, ob_some, eo, rc_ok (xw_ok317 hW1), ob_some, hxc, ob_some, gR_ok (xw_ok317 hWc), ob_some, xw_g577_317 hWc, gI_ok hC2.1, ob_some, rc_ok (xw_ok317 hWc), ob_some, y2, b2_some, rc_ok (xw_ok307 y3), ob_some, y4, ob_some]
  have bA' := (oX16_dataOut fu 323 _ _ _ _ A hBA (by unfold RM; omega) (inR_some (by unfold RM; omega)) hra).2
  have bM' := (oX9_sendPart fu 317 _ _ _ M hBM (by unfold RX; omega) (inR_some (hBM.1 c 1 c1 (by unfold TX; omega))) hrx).2
  -- the class's connection afterwards
  have hCp : CnO (payX (wA M1 308 H) c (nI (16 + 8 * pshOf v f n + fi))) c := by
    rw [show CnO (payX (wA M1 308 H) c (nI (16 + 8 * pshOf v f n + fi))) c = CnO (wA M1 308 H) c from by unfold CnO okA; rw [payX_S, payX_G]]; exact hC2
  have hWp : XW (payX (wA M1 308 H) c (nI (16 + 8 * pshOf v f n + fi))) := by
    rw [show XW (payX (wA M1 308 H) c (nI (16 + 8 * pshOf v f n + fi))) = XW (wA M1 308 H) from by unfold XW okA; rw [payX_S, payX_G]]; exact hW1
  obtain ⟨z1, z2, z3, z4⟩ := FrM_at hWp hCp y9
  have MF : ∀ g o, o = c ∨ o = c + 2 ∨ o = c + 5 → g < 256 ∨ (320 ≤ g ∧ g < 640) → ¬ ((g = 2 ∨ g = 4) ∧ o = c + 2) → mF M' g o = mF M1 g o := fun g o h1 h2 h3 => by
    rw [z1 g o h1 h2, payX_F (fun e => h3 ⟨Or.inl e.1, e.2⟩) (fun e => h3 ⟨Or.inr e.1, e.2⟩)]
    rfl
  have Mc : ∀ g, 64 < g → g < 128 → mF M' g c = mF M g c := fun g h1 h2 => (MF g c (Or.inl rfl) (Or.inl (by omega)) (by omega)).trans (M1F g c (by omega) (by omega))
  have Mr : ∀ g, g < 10 → g ≠ 2 → g ≠ 4 → mF M' g (c + 2) = mF M g (c + 2) := fun g h1 h2 h3 => (MF g _ (Or.inr (Or.inl rfl)) (Or.inl (by omega)) (by omega)).trans (M1F g _ (by omega) (by omega))
  have Mp : ∀ g, 320 ≤ g → g < 384 → mF M' g (c + 5) = mF M1 g (c + 5) := fun g h1 h2 => MF g _ (Or.inr (Or.inr rfl)) (Or.inr (by omega)) (by omega)
  have h308 : ∀ a, okA M 100 a → a ≠ 308 → mA (payX (wA M1 308 H) c (nI (16 + 8 * pshOf v f n + fi))) a = mA M a := fun a h1 h2 => by rw [payX_A, mA_wA_ne h2, M1A _ (c305 _ h1)]
  have n308 : ∀ x, x = c + 1 ∨ x = c + 3 ∨ x = c + 4 → x ≠ 308 := fun x hx e => by
    have n4 : c ≠ 304 := fun e => by subst e; exact absurd (c1.2.2.symm.trans (xw_ok304 hW).2.2) (by decide)
    have n5 : c ≠ 305 := fun e => by subst e; exact absurd (c1.2.2.symm.trans (xw_ok305 hW).2.2) (by decide)
    have n7 : c ≠ 307 := fun e => by subst e; exact absurd (c1.2.2.symm.trans (xw_ok307 hW).2.2) (by decide)
    omega
  have n305c : c + 4 ≠ 305 := fun e => by
    have : c + 3 = 304 := by omega
    rw [this] at c10
    exact absurd (c10.2.2.symm.trans (xw_ok304 hW).2.2) (by decide)
  have told' : (mF M' 2 (c + 2)) = nI (4096 - hd) := by
    rw [z1 2 (c + 2) (Or.inr (Or.inl rfl)) (Or.inl (by decide))]
    unfold payX
    rw [if_pos fl3]
    simp only [mF_sF, reduceIte, Nat.reduceEqDiff, Nat.reduceAdd, Nat.reduceMul, Nat.reduceLT, Nat.reduceLeDiff, and_true, true_and, and_false, false_and, and_self, ne_eq, not_true_eq_false, not_false_eq_true, Option.some.injEq, reduceCtorEq]
    rw [ehl, ← hldX_eq hr, eop, e4096]
  have owed' : (mF M' 4 (c + 2)) = 0 := by
    rw [z1 4 (c + 2) (Or.inr (Or.inl rfl)) (Or.inl (by decide))]
    unfold payX
    rw [if_pos fl3]
    simp only [mF_sF, reduceIte, Nat.reduceEqDiff, Nat.reduceAdd, Nat.reduceMul, Nat.reduceLT, Nat.reduceLeDiff, and_true, true_and, and_false, false_and, and_self, ne_eq, not_true_eq_false, not_false_eq_true, Option.some.injEq, reduceCtorEq]
  have FA' : ∀ g, ¬ (g = 768 ∨ g = 785 ∨ g = 787 ∨ g = 788 ∨ g = 789 ∨ g = 790 ∨ g = 799 ∨ g = 805 ∨ g = 807) → g < 896 → mF A' g (342 + 4 * k) = mF A g (342 + 4 * k) := fun g h h2 => (r2.2.2.2.2 g _ (fun e => h (by omega))).trans (F4 g (fun e => h (by omega)) h2)
  have A'4 : ∀ g, g ≠ 768 → g ≠ 799 → mF A' g (342 + 4 * k) = mF A4 g (342 + 4 * k) := fun g h1 h2 => r2.2.2.2.2 g _ (fun e => by omega)
  have AA : ∀ a, a ≠ 330 → (a < 331 ∨ 334 < a) → (a < 422 ∨ 438 ≤ a) → mA A' a = mA A a := fun a h1 h2 h3 => by
    rw [r2.2.2.2.1, n5]
    have h4 : mA A3 a = mA A a := by rw [a3A, y8.2.2.2.2.2.1 a h2 h3, mA_wA_ne (by omega)]
    split
    · rw [mA_wA_ne h1]; exact h4
    · exact h4
  have eti : (mF A' 785 (342 + 4 * k)) = nI (w 16) := (A'4 _ (by decide) (by decide)).trans n7
  have eon : (mF A' 789 (342 + 4 * k)) = nI 1 := (A'4 _ (by decide) (by decide)).trans n9
  have etm : (mF A' 790 (342 + 4 * k)) = nI (w 15) := (A'4 _ (by decide) (by decide)).trans n10
  have etn : (w 16) = 1 → (mF A' 787 (342 + 4 * k)) = b0 + nI (w 17) ∧ (mF A' 788 (342 + 4 * k)) = nI (w 18) := fun h => ⟨(A'4 _ (by decide) (by decide)).trans (n8 h).1, (A'4 _ (by decide) (by decide)).trans (n8 h).2⟩
  have hst1 := hS.st1
  have stv : ∀ x : Nat, x < 100 → ((mF A 768 (342 + 4 * k)) = nI x ↔ (v 0) = x) := fun x hx => by rw [hS.st]; exact nI_eq (by omega) (by omega)
  have hwti : (w 16) ≤ 1 := by
    obtain ⟨-, -, -, -, -, -, -, -, -, -, -, -, -, -, -, -, h, -⟩ := hw
    rw [h]; split <;> omega
  refine ⟨A', M', T', hra, hrx, y5, y6, ?_, bA', bM', ?_, ?_, ?_, ?_, ?_, ?_, ?_, ?_, r3, r4, eti, etn, eon, etm, FA'⟩
  · have hCM' : CnO M' c := CnO_of y7.2.2.1 (y9.ok hCp.1)
    refine JL0_cn (A := A2) (M := M') y7 hCM' ?_ ?_ ?_ (fun g a h => ?_) (fun a h => ?_) rfl rfl rfl (fun _ _ _ _ _ _ => rfl) (fun _ _ _ _ _ _ _ _ => rfl)
    · rw [r2.1, n2, ff3.1]
    · rw [r2.2.1, n3, ff3.2.1]
    · rw [r2.2.2.1, n4, ff3.2.2.1]
    · have hg : 896 ≤ g := by unfold JLf at h; omega
      rw [r2.2.2.2.2 g a (fun e => by omega), n6 g a (fun e => by omega), F3 g a (fun e => by omega)]
    · rw [r2.2.2.2.1, n5]
      split
      · rw [mA_wA_ne (by omega), a3A]
      · rw [a3A]
  · intro i hi
    have e30 : mA A3 330 = mA A 330 := by rw [a3A, y8.2.2.2.2.2.1 330 (by omega) (by omega), mA_wA_ne (by decide)]
    have e05 : mA M' 305 = mA M1 305 := by
      have h1 : mA M' 305 = mA (payX (wA M1 308 H) c (nI (16 + 8 * pshOf v f n + fi))) 305 := y9.2.2.2.2.2 305 (xw_ok305 hWp).2.1 (by decide) (by omega) (by rw [show 305 - 1 = 304 from rfl, (xw_ok304 hWp).2.2]; decide)
      rw [h1, payX_A, mA_wA_ne (by decide)]
    rw [r2.2.2.2.1, n5, e05, x5]
    by_cases q : f < (v 3)
    · rw [if_pos q, if_pos q, mA_wA_self, mA_wA_self, e30]
      unfold cn3
      show (if i = 3 then mA A 330 3 + 1 else mA A 330 i) = (if i = 3 then mA M 305 3 + 1 else mA M 305 i)
      rw [hN 3 (by decide), hN i hi]
    · rw [if_neg q, if_neg q, e30]
      exact hN i hi
  · have lt : ∀ a, a < sN (mS M) → a < sN (mS (payX (wA M1 308 H) c (nI (16 + 8 * pshOf v f n + fi)))) := fun a h => by rw [payX_S, mS_wA, xS]; exact h
    have ty : ∀ a, a < sN (mS M) → sTy (mS M') a = sTy (mS M) a ∧ sLen (mS M') a = sLen (mS M) a := fun a h => by
      have := y9.2.1 a (lt a h)
      rw [payX_S, mS_wA, xS] at this
      exact this
    have l301 : (301 : Nat) < sN (mS M) := (xw_ok301 hW).2.1
    have ltig := i2.2.1
    refine ⟨?_, ⟨i2.1, ?_, ?_⟩, ?_, i4, fun j hj => ?_, i6, ?_, ?_, ?_, ?_, i11, i12⟩
    · rw [y9.2.2.1 512 301 (lt _ l301), payX_G, mG_wA, xG]; exact i1
    · have := y9.1
      rw [payX_S, mS_wA, xS] at this
      omega
    · rw [(ty _ ltig).1]; exact i2.2.2
    · rw [(ty _ ltig).2]; exact i3
    · have h6 : mA M' ig = mA M ig := by
        rw [y9.2.2.2.2.2 ig (lt _ ltig) i6 (n100 hW i2) (by rw [payX_S, mS_wA, xS]; exact i7)]
        exact h308 ig i2 i6
      rw [AA 325 (by decide) (by omega) (by omega), h6]
      exact i5 j hj
    · rw [(ty _ (by omega)).1]; exact i7
    · rw [(ty _ (by omega)).1]; exact i8
    · rw [(ty _ (by omega)).1]; exact i9
    · rw [(ty _ (by omega)).1]; exact i10
  · exact CnO_of y7.2.2.1 (y9.ok hCp.1)
  · have hs1 : (mF A 768 (342 + 4 * k)) ≠ 1 := fun e => by
      have := (stv 1 (by decide)).mp e
      rcases hst with q | q | q | q | q <;> omega
    refine CE.mk ?_ ?_ ?_ ?_ ?_ ?_ ?_ ?_ ?_ ?_ ?_ ?_ ?_ ?_ ?_ ?_ ?_ ?_
    · rw [r3, MF 64 c (Or.inl rfl) (Or.inl (by decide)) (by omega), hst64]
    · rw [FA' _ (by omega) (by decide), Mc _ (by decide) (by decide)]; exact hE.ip
    · rw [FA' _ (by omega) (by decide), Mc _ (by decide) (by decide)]; exact hE.po
    · rw [FA' _ (by omega) (by decide), Mc _ (by decide) (by decide)]; exact hE.is
    · rw [FA' _ (by omega) (by decide), Mc _ (by decide) (by decide)]; exact hE.una
    · rw [FA' _ (by omega) (by decide), Mc _ (by decide) (by decide)]; exact hE.at'
    · rw [FA' _ (by omega) (by decide), Mc _ (by decide) (by decide)]; exact hE.max
    · rw [FA' _ (by omega) (by decide), Mc _ (by decide) (by decide)]; exact hE.wi
    · rw [FA' _ (by omega) (by decide), Mc _ (by decide) (by decide)]; exact hE.w1
    · rw [FA' _ (by omega) (by decide), Mc _ (by decide) (by decide)]; exact hE.w2
    · rw [FA' _ (by omega) (by decide), Mc _ (by decide) (by decide)]; exact hE.hl
    · rw [FA' _ (by omega) (by decide), Mc _ (by decide) (by decide)]; exact hE.bl
    · rw [FA' 796 (by omega) (by decide), FA' 795 (by omega) (by decide), Mc _ (by decide) (by decide)]; exact hE.bp
    · rw [FA' _ (by omega) (by decide), Mc _ (by decide) (by decide)]; exact hE.bg
    · rw [FA' _ (by omega) (by decide), Mc _ (by decide) (by decide)]; exact hE.cl
    · intro _
      rw [FA' _ (by omega) (by decide), Mc _ (by decide) (by decide)]
      exact hE.la hs1
    · intro h
      exfalso
      rw [r3] at h
      rcases hns with q | q | q | q | q <;> rw [q] at h <;> exact absurd h (by decide)
    · rw [FA' _ (by omega) (by decide), AA (343 + 4 * k) (by omega) (by omega) (by omega), z2, h308 _ c5 (n308 _ (Or.inl rfl))]
      exact hE.hd
  · have tz : (mF A' 785 (342 + 4 * k)) ≠ 0 → (w 16) = 1 := fun h => by
      rw [eti] at h
      have : (w 16) ≠ 0 := fun e => h (by rw [e]; rfl)
      omega
    refine ⟨CQ.mk ?_ ?_ ?_ ?_ ?_ ?_ (fun h => ?_) ?_ (fun h => ?_) (Or.inr (Or.inl ⟨eon, ?_⟩)), fun g hg => ?_, ?_⟩
    · rw [FA' _ (by omega) (by decide), Mp _ (by decide) (by decide), M1F _ _ (by omega) (by omega)]; exact hP.ms
    · rw [FA' _ (by omega) (by decide), Mp _ (by decide) (by decide), M1F _ _ (by omega) (by omega)]; exact hP.ss
    · rw [FA' _ (by omega) (by decide), Mp _ (by decide) (by decide), M1F _ _ (by omega) (by omega)]; exact hP.ro
    · rw [FA' _ (by omega) (by decide), Mp _ (by decide) (by decide), M1F _ _ (by omega) (by omega)]; exact hP.tr
    · rw [FA' _ (by omega) (by decide), Mp _ (by decide) (by decide), M1F _ _ (by omega) (by omega)]; exact hP.du
    · rw [eti, Mp _ (by decide) (by decide), x7]
    · have h1 := tz h
      rw [(etn h1).1, (etn h1).2, Mp _ (by decide) (by decide), Mp _ (by decide) (by decide), (x8 h1).1, (x8 h1).2]
      exact ⟨rfl, rfl⟩
    · rw [FA' _ (by omega) (by decide), Mp _ (by decide) (by decide), M1F _ _ (by omega) (by omega)]; exact hP.me
    · rw [FA' _ (by omega) (by decide)] at h
      rw [FA' _ (by omega) (by decide), FA' _ (by omega) (by decide), Mp _ (by decide) (by decide), Mp _ (by decide) (by decide), M1F _ _ (by omega) (by omega), M1F _ _ (by omega) (by omega)]
      exact hP.sv h
    · rw [etm, Mp _ (by decide) (by decide), x9]
    · rw [Mp _ (by omega) (by omega), M1F _ _ (by omega) (by omega)]
    · rw [etm, Mp _ (by decide) (by decide), x9]
  · refine CR_upd (A := A) (M := M) (fun g h => FA' g (by omega) (by omega)) (AA _ (by omega) (by omega) (by omega)) (AA _ (by omega) (by omega) (by omega)) Mr (by rw [z3, h308 _ c10 (n308 _ (Or.inr (Or.inl rfl)))]) (by rw [z4, payX_A, mA_wA_ne (n308 _ (Or.inr (Or.inr rfl))), M1A _ n305c]) ?_ ⟨4096 - hd, by omega, ?_⟩ ?_ ?_ hr
    · rw [A'4 _ (by decide) (by decide), n6 _ _ (by omega), t805, told']
    · rw [A'4 _ (by decide) (by decide), n6 _ _ (by omega), t805]
    · rw [A'4 _ (by decide) (by decide), n6 _ _ (by omega), t807, owed']
    · rw [hr.st, hS.st, r3]
      unfold nst
      by_cases q : fi = 1 ∧ (v 8) = 0
      · rw [if_pos q]
        have q27 : (v 0) = 2 ∨ (v 0) = 7 := by
          rcases hst with q1 | q1 | q1 | q1 | q1
          · exact Or.inl q1
          · exact Or.inr q1
          · have := (hS.s358 (Or.inl q1)).1; omega
          · have := (hS.s358 (Or.inr (Or.inl q1))).1; omega
          · have := (hS.s358 (Or.inr (Or.inr q1))).1; omega
        rcases q27 with q1 | q1 <;> rw [q1] <;> decide
      · rw [if_neg q]
  · refine (((FrA_wA G).ca.tr y8.ca).tr (ff3.ca (fun g h => by omega))).tr (FCA.tr ⟨n2, n3, n4, fun g a h => n6 g a (fun e => h (by unfold PCa; omega)), fun a h => ?_, by rw [n6 1049 323 (by omega)]; exact Int32.le_refl _⟩ (r2.ca (fun g h => by omega)))
    rw [n5]
    split
    · exact mA_wA_ne (fun e => h (by unfold QCa; omega))
    · rfl
  · refine FCM.tr (M' := M1) ⟨by rw [xS]; exact Nat.le_refl _, fun a _ => by rw [xS]; exact ⟨rfl, rfl⟩, fun g a _ _ => by rw [xG], fun a _ _ => by rw [xB], fun g a _ h => M1F g a (fun e => h (by unfold PCx; omega)) (fun e => h (by unfold PCx; omega)), fun a _ h => M1A a (fun e => h (by unfold QCx; omega))⟩ (((FrM_wA H).cm).tr (FCM.tr (M' := payX (wA M1 308 H) c (nI (16 + 8 * pshOf v f n + fi))) ⟨by rw [payX_S]; exact Nat.le_refl _, fun a _ => by rw [payX_S]; exact ⟨rfl, rfl⟩, fun g a _ _ => by rw [payX_G], fun a _ _ => by rw [payX_B], fun g a _ h => payX_F (fun e => h (by unfold PCx; omega)) (fun e => h (by unfold PCx; omega)), fun a _ _ => by rw [payX_A]⟩ y9.cm))
theorem sp_dataOut (fu : Nat) (hfu : 4000 ≤ fu) {KN KS t T k c nw im ig f n fi hd ft : Nat} {b0 : Int32} {v w : Nat → Nat} (hJ : JL0 KN KS t T A M) (hBA : Bd RM TM A) (hBM : Bd RX TX M) (hT2 : T < 2 ^ 30) (hk : k < 16) (hC : CnO M c) (hE : CE A M k c) (hP : CP A M k c) (hI : CI A k nw t im b0 v) (hS : CS A k nw b0 v) (hr : CR A M k c hd ft) (hN : JN A M) (hJI : JI im ig A M) (hnw : (mF A 1034 323) = nI nw) (hn2 : nw ≤ 2000000000) (hst : sendSt (v 0)) (hs : segOk v f n fi) (hw : ntd v w nw f) :
    ∃ A' M' T', fX16_dataOut fu 323 (some (342 + 4 * k)) (b0 + nI f) (nI n) (nI fi) A = some A' ∧ fX9_sendPart fu 317 (some c) (b0 + nI f) (nI (n + fi)) M = some M' ∧ T ≤ T' ∧ T' ≤ T + 1 ∧ JL0 KN KS t T' A' M' ∧ Bd RM TM A' ∧ Bd RX TX M' ∧ JN A' M' ∧ JI im ig A' M' ∧ CnO M' c ∧ CE A' M' k c ∧ CP A' M' k c ∧ CR A' M' k c hd ft ∧ FCA k A A' ∧ FCM c M M' ∧ (mF A' 768 (342 + 4 * k)) = nI (nst v fi) ∧ (mF A' 799 (342 + 4 * k)) = nI (if fi = 1 then 1 else (v 8)) ∧ (mF A' 785 (342 + 4 * k)) = nI (w 16) ∧ ((w 16) = 1 → (mF A' 787 (342 + 4 * k)) = b0 + nI (w 17) ∧ (mF A' 788 (342 + 4 * k)) = nI (w 18)) ∧ (mF A' 789 (342 + 4 * k)) = nI 1 ∧ (mF A' 790 (342 + 4 * k)) = nI (w 15) ∧ (∀ g, ¬ (g = 768 ∨ g = 785 ∨ g = 787 ∨ g = 788 ∨ g = 789 ∨ g = 790 ∨ g = 799 ∨ g = 805 ∨ g = 807) → g < 896 → mF A' g (342 + 4 * k) = mF A g (342 + 4 * k)) := by
  obtain ⟨A', M', T', r1, r2, r3, r4, r5, r6, r7, r8, r9, r10, r11, ⟨q1, q2, q3⟩, r13, r14, r15, r16, r17, r18, r19, r20, r21, r22⟩ := sp_dataOut0 fu hfu hJ hBA hBM hT2 hk hC hE hP.cq hI.w hS hr hN hJI hnw hn2 hst hs hw
  refine ⟨A', M', T', r1, r2, r3, r4, r5, r6, r7, r8, r9, r10, r11, CP.mk q1.ms ?_ q1.ss q1.ro q1.tr q1.du ?_ q1.ti q1.tn q1.me q1.sv (Or.inr ⟨r20, q3⟩), r13, r14, r15, r16, r17, r18, r19, r20, r21, r22⟩
  · rw [r22 779 (by omega) (by decide), q2 321 (Or.inl rfl)]; exact hP.cw
  · rw [r22 786 (by omega) (by decide), q2 327 (Or.inr rfl)]; exact hP.re
end Data3
