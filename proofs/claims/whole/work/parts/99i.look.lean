/-! ===== part 99i: a request that is none yet, or too long ===== -/
section Look
variable {A M A' M' : Mm}
/-- our side closes, in both -/
theorem TK_close {KN KS t T k c nw im ig hd ft : Nat} {b0 : Int32} {v : Nat → Nat} (h : TK A M KN KS t T im ig k c nw hd ft b0 v) (h7 : (v 0) = 7) (h0 : (v 7) = 0) : TK (sF A 798 (342 + 4 * k) 1) (sF M 74 c 1) KN KS t T im ig k c nw hd ft b0 (uv v 7 1) := by
  generalize hA1 : sF A 798 (342 + 4 * k) 1 = A1
  generalize hM1 : sF M 74 c 1 = M1
  have FA' : ∀ g, ¬ g = 798 → mF A1 g (342 + 4 * k) = mF A g (342 + 4 * k) := fun g hg => by subst hA1; rw [mF_sF, if_neg (fun e => hg e.1)]
  have FC' : ∀ g, ¬ g = 74 → mF M1 g c = mF M g c := fun g hg => by subst hM1; rw [mF_sF, if_neg (fun e => hg e.1)]
  have FP' : ∀ g, ¬ 100000 ≤ g → mF M1 g (c + 5) = mF M g (c + 5) := fun g _ => by subst hM1; rw [mF_sF, if_neg (by omega)]
  have FR' : ∀ g, ¬ 100000 ≤ g → mF M1 g (c + 2) = mF M g (c + 2) := fun g hg => by subst hM1; rw [mF_sF, if_neg (by omega)]
  have eA : mA A1 = mA A := by subst hA1; rfl
  have eM : mA M1 = mA M := by subst hM1; rfl
  have hdA : mA A1 (343 + 4 * k) = mA A (343 + 4 * k) := by rw [eA]
  have hdM : mA M1 (c + 1) = mA M (c + 1) := by rw [eM]
  have rwA : mA A1 (344 + 4 * k) = mA A (344 + 4 * k) := by rw [eA]
  have rwM : mA M1 (c + 3) = mA M (c + 3) := by rw [eM]
  have thA : mA A1 (345 + 4 * k) = mA A (345 + 4 * k) := by rw [eA]
  have thM : mA M1 (c + 4) = mA M (c + 4) := by rw [eM]
  have v6 : mF A1 798 (342 + 4 * k) = nI 1 := by subst hA1; rw [mF_sF, if_pos ⟨rfl, rfl⟩]; rfl
  have v3 : mF M1 74 c = nI 1 := by subst hM1; rw [mF_sF, if_pos ⟨rfl, rfl⟩]; rfl
  have hE := h.ce
  have hP := h.cp
  have hI := h.ci
  have hS := h.cs
  have hr := h.cr
  have mL := hI.mL
  have fn0 := hS.s27 (Or.inr h7)
  have u1 := hS.sN1 (by omega)
  refine (TK_upd (u := 0) h h.t1000 (by subst hA1; rfl) (by subst hA1; rfl) (by subst hA1; rfl) eA (fun f a q => by subst hA1; rw [mF_sF, if_neg (fun e => q ⟨by omega, by omega, e.2⟩)]) (by subst hM1; rfl) (by subst hM1; rfl) (by subst hM1; rfl) eM (fun f a q _ _ => by subst hM1; rw [mF_sF, if_neg (fun e => q e.2)]) ?_ ?_ ?_ ?_ ?_).1
  · refine CE.mk ?_ ?_ ?_ ?_ ?_ ?_ ?_ ?_ ?_ ?_ ?_ ?_ ?_ ?_ ?_ ?_ ?_ ?_
    · exact (FA' 768 (by omega)).trans (hE.st.trans (FC' 64 (by omega)).symm)
    · exact (FA' 769 (by omega)).trans (hE.ip.trans (FC' 65 (by omega)).symm)
    · exact (FA' 770 (by omega)).trans (hE.po.trans (FC' 66 (by omega)).symm)
    · exact (FA' 771 (by omega)).trans (hE.is.trans (FC' 67 (by omega)).symm)
    · exact (FA' 772 (by omega)).trans (hE.una.trans (FC' 68 (by omega)).symm)
    · exact (FA' 773 (by omega)).trans (hE.at'.trans (FC' 69 (by omega)).symm)
    · exact (FA' 774 (by omega)).trans (hE.max.trans (FC' 70 (by omega)).symm)
    · exact (FA' 775 (by omega)).trans (hE.wi.trans (FC' 71 (by omega)).symm)
    · exact (FA' 776 (by omega)).trans (hE.w1.trans (FC' 82 (by omega)).symm)
    · exact (FA' 777 (by omega)).trans (hE.w2.trans (FC' 83 (by omega)).symm)
    · exact (FA' 794 (by omega)).trans (hE.hl.trans (FC' 78 (by omega)).symm)
    · exact (FA' 796 (by omega)).trans (hE.bl.trans (FC' 76 (by omega)).symm)
    · rw [FA' 796 (by omega), FA' 795 (by omega), FC' 75 (by omega)]; exact hE.bp
    · exact (FA' 797 (by omega)).trans (hE.bg.trans (FC' 77 (by omega)).symm)
    · exact v6.trans v3.symm
    · rw [FA' 768 (by omega), FA' 812 (by omega), FC' 73 (by omega)]; exact hE.la
    · rw [FA' 768 (by omega), FA' 813 (by omega), FC' 72 (by omega)]; exact hE.li
    · rw [FA' 794 (by omega), hdA, hdM]; exact hE.hd
  · refine CP.mk ?_ ?_ ?_ ?_ ?_ ?_ ?_ ?_ ?_ ?_ ?_ ?_
    · exact (FA' 778 (by omega)).trans (hP.ms.trans (FP' 320 (by omega)).symm)
    · exact (FA' 779 (by omega)).trans (hP.cw.trans (FP' 321 (by omega)).symm)
    · exact (FA' 780 (by omega)).trans (hP.ss.trans (FP' 322 (by omega)).symm)
    · exact (FA' 781 (by omega)).trans (hP.ro.trans (FP' 323 (by omega)).symm)
    · exact (FA' 791 (by omega)).trans (hP.tr.trans (FP' 325 (by omega)).symm)
    · exact (FA' 792 (by omega)).trans (hP.du.trans (FP' 326 (by omega)).symm)
    · exact (FA' 786 (by omega)).trans (hP.re.trans (FP' 327 (by omega)).symm)
    · exact (FA' 785 (by omega)).trans (hP.ti.trans (FP' 328 (by omega)).symm)
    · rw [FA' 785 (by omega), FA' 787 (by omega), FA' 788 (by omega), FP' 329 (by omega), FP' 330 (by omega)]; exact hP.tn
    · exact (FA' 784 (by omega)).trans (hP.me.trans (FP' 331 (by omega)).symm)
    · rw [FA' 784 (by omega), FA' 782 (by omega), FA' 783 (by omega), FP' 332 (by omega), FP' 333 (by omega)]; exact hP.sv
    · rw [FA' 789 (by omega), FA' 790 (by omega), FP' 324 (by omega)]; exact hP.tm
  · refine CI.mk ?_ ?_ ?_ ?_ ?_ ?_ ?_ ?_ ?_ ?_ ?_ ?_ ?_ ?_ ?_ ?_ ?_ ?_ ?_ ?_ ?_ ?_ ?_ ?_ ?_ ?_ ?_ ?_ ?_ ?_ ?_ ?_ ?_ ?_ ?_ ?_
    · exact (FA' 797 (by omega)).trans hI.bg
    · exact (FA' 772 (by omega)).trans hI.una
    · exact (FA' 773 (by omega)).trans hI.at'
    · exact (FA' 774 (by omega)).trans hI.max
    · exact hI.ua
    · exact hI.am
    · show (v 3) ≤ 1 + (v 4) + (v 5) + 1; omega
    · exact (FA' 794 (by omega)).trans hI.hl
    · exact hI.hl1
    · exact (FA' 796 (by omega)).trans hI.bl
    · exact hI.bl1
    · rw [FA' 795 (by omega)]; exact hI.bp
    · exact v6
    · exact Nat.le_refl 1
    · exact (FA' 799 (by omega)).trans hI.fn
    · exact hI.fn1
    · show (v 8) = 1 ↔ ((1 : Nat) = 1 ∧ (v 3) = (v 4) + (v 5) + 2); omega
    · exact (FA' 778 (by omega)).trans hI.ms
    · exact hI.ms1
    · exact (FA' 779 (by omega)).trans hI.cw
    · exact hI.cw1
    · exact (FA' 780 (by omega)).trans hI.ss
    · exact hI.ss1
    · exact (FA' 781 (by omega)).trans hI.ro
    · exact hI.ro1
    · exact (FA' 775 (by omega)).trans hI.wi
    · exact hI.wi1
    · exact (FA' 789 (by omega)).trans hI.on
    · exact hI.on1
    · intro z; obtain ⟨z1, z2, z3, z4⟩ := hI.tm z; exact ⟨(FA' 790 (by omega)).trans z1, z2, z3, fun w => by have := z4 w; show (v 1) < 1 + (v 4) + (v 5) + 1; omega⟩
    · exact (FA' 785 (by omega)).trans hI.ti
    · exact hI.ti1
    · rw [FA' 787 (by omega), FA' 788 (by omega)]; exact hI.tn
    · exact (FA' 784 (by omega)).trans hI.me
    · exact hI.me1
    · rw [FA' 782 (by omega), FA' 783 (by omega)]; exact hI.sv
  · refine CS.mk ?_ ?_ ?_ ?_ ?_ ?_ ?_ ?_ ?_
    · exact (FA' 768 (by omega)).trans hS.st
    · exact hS.st1
    · exact fun z => absurd (show (v 0) = 1 from z) (by omega)
    · exact hS.sN1
    · exact hS.s27
    · exact hS.s358
    · exact hS.s46
    · intro z; obtain ⟨q1, q2, q3⟩ := hS.la z; exact ⟨(FA' 812 (by omega)).trans q1, q2, fun y => absurd (show (v 0) = 2 from y) (by omega)⟩
    · rw [FA' 813 (by omega)]; exact hS.si
  · refine CR.mk ?_ ?_ ?_ ?_ ?_ ?_ ?_ ?_ ?_ ?_ ?_ ?_ ?_ ?_ ?_ ?_ ?_ ?_ ?_
    · exact (FA' 803 (by omega)).trans (hr.rd.trans (FR' 0 (by omega)).symm)
    · exact (FA' 804 (by omega)).trans (hr.nx.trans (FR' 1 (by omega)).symm)
    · exact (FA' 805 (by omega)).trans (hr.to.trans (FR' 2 (by omega)).symm)
    · exact (FA' 806 (by omega)).trans (hr.lv.trans (FR' 3 (by omega)).symm)
    · exact (FA' 807 (by omega)).trans (hr.ow.trans (FR' 4 (by omega)).symm)
    · exact (FA' 808 (by omega)).trans (hr.fk.trans (FR' 7 (by omega)).symm)
    · exact (FA' 809 (by omega)).trans (hr.fT.trans (FR' 8 (by omega)).symm)
    · rw [FA' 808 (by omega), FA' 810 (by omega), FR' 9 (by omega)]; exact hr.fq
    · exact (FA' 809 (by omega)).trans hr.ftN
    · exact hr.ft1
    · rw [FA' 804 (by omega), FA' 803 (by omega)]; exact hr.nxN
    · exact hr.hd1
    · rw [FA' 806 (by omega)]; exact hr.lvN
    · rw [FA' 805 (by omega)]; exact hr.toN
    · rw [rwA, rwM, FA' 803 (by omega)]; exact hr.rw
    · rw [FA' 768 (by omega)]; exact hr.st
    · rw [thA, thM, rwA, rwM, FA' 803 (by omega)]; exact hr.th
    · rw [thA]; exact hr.stp
    · rw [FA' 808 (by omega), FA' 804 (by omega), FA' 810 (by omega)]; exact hr.fnx
/-- too long a head, in both -/
theorem sp_toolong (fu : Nat) (hfu : 70000 ≤ fu) {KN KS t T k c nw im ig ft F ek : Nat} {b0 : Int32} {v : Nat → Nat} (h : TK A M KN KS t T im ig k c nw 4096 ft b0 v) (hk : k < 16) (hf : FI F ek im A M) (h0 : (v 7) = 0) (h1 : (v 2) = 1 + (v 4) + (v 5)) (h2 : (v 1) = (v 2)) (hst : (v 0) = 2 ∨ (v 0) = 7) :
    ∃ A' M' b0' v', fX16_refuse fu 323 (some (342 + 4 * k)) A = some A' ∧ ((rc M 0 (some (c + 2))).bind fun q9 => (fX0_leave fu q9 (4096 : Int32) M).bind fun M10 => (rc M10 7 (some 319)).bind fun q11 => (fX7_forget fu q11 M10).bind fun M12 => (rc M12 7 (some 319)).bind fun q13 => (fX7_give fu q13 (some c) (431 : Int32) M12).bind fun M14 => some M14) = some M' ∧ TK A' M' KN KS t T im ig k c nw 0 ft b0' v' ∧ FWA k A A' ∧ FWM c M M' := by
  have hR := h.rw'
  have hW := h.xw
  have hC := h.cn
  have c319 := ok_ne hC.1 (xw_ok319 hW) (by decide)
  have c305 : c + 1 ≠ 305 := ok_ne hC.2.2.2.2.1 (xw_ok305 hW) (by decide)
  obtain ⟨A3, M1, k1, k2, tk1, k4, k5, k6, k7, k8, -, -, k11, k12, k13, -, k15, k16, k17, k18, k19⟩ := sp_take fu (by omega) h hk (n := 4096) (by omega)
  have hR3 := tk1.rw'
  have hW1 := tk1.xw
  obtain ⟨M2, n1, n2, n3⟩ := x_forget fu hW1
  generalize hA4 : sF (sF A3 1068 323 0) 1067 323 (nI 431) = A4
  have l1 : FF (fun f => 1067 ≤ f ∧ f ≤ 1068) 323 A3 A4 := by subst hA4; exact (FF.s _ (by omega)).tr (FF.s _ (by omega))
  have e67 : mF A4 1067 323 = nI 431 := by subst hA4; rw [mF_sF, if_pos ⟨rfl, rfl⟩]
  have e68 : mF A4 1068 323 = 0 := by subst hA4; rw [mF_sF, if_neg (by decide), mF_sF, if_pos ⟨rfl, rfl⟩]
  have fA4 : FQA A3 A4 := FF.fqA l1 (by intro f hf; omega)
  have fM2 : FQM M1 M2 := FF.fqM n2 (by intro f hf; omega)
  have tk2 := TK_q hk tk1 (Bd_same tk1.ba l1.1 l1.2.1 l1.2.2.1 l1.2.2.2.1) (Bd_same tk1.bm n2.1 n2.2.1 n2.2.2.1 n2.2.2.2.1) fA4 fM2
  have wA4 : FWA k A A4 := k4.wa.tr fA4.wa
  have wM2 : FWM c M M2 := k5.wm.tr fM2.wm
  have fi4 := FI_w hf hC hW hk wA4 wM2
  obtain ⟨A7, M4, hl, bl, bp, mk, gv, GG⟩ := sp_give fu (by omega) (r := 0) (me := 0) (clo := 1) (st := 431) hk tk2.rw' tk2.ba.2.2.2.2 tk2.xw tk2.bm.2.2.2.2 tk2.cn c319 c305 (show stN 431 by unfold stN; omega) e67 e68 (n3 453 (by omega)) (by omega) (by rw [if_neg (fun e => e.2 (by omega))]) (fun z => by omega) fi4 h.ji.2.2.2.1
  have tk4 := GV_tk tk2 hk GG (by omega) h0 h1 h2 hst
  refine ⟨A7, M4, _, _, ?_, ?_, tk4, wA4.tr GG.1.wa, wM2.tr GG.2.1.wm⟩
  · unfold fX16_refuse
    have o3 := rw_ok323 hR3
    rw [rc_ok (rw_cnO hR k hk), ob_some, m_held hR hk, b2_some, hldA_nI h.cr, rc_ok (rw_ok323 hR), ob_some, k1, ob_some, pZ_ok o3 (Or.inl rfl), ob_some, pF_ok (by rw [ok_sF]; exact o3), ob_some]
    rw [show sF (sF A3 1068 323 0) 1067 323 (431 : Int32) = A4 from hA4, rc_ok (rw_ok323 tk2.rw'), ob_some]
    have mk' : fX16_make fu 323 (some (342 + 4 * k)) (-1) 1 A4 = some A7 := mk
    rw [mk', ob_some]
  · have cc : okA M 0 (c + 2) := hC.2.2.2.2.2.2.1
    have k2' : fX0_leave fu (c + 2) (4096 : Int32) M = some M1 := k2
    have gv' : fX7_give fu 319 (some c) (431 : Int32) M2 = some M4 := gv
    rw [rc_ok cc, ob_some, k2', ob_some, rc_ok (xw_ok319 hW1), ob_some, n1, ob_some, rc_ok (xw_ok319 tk2.xw), ob_some, gv', ob_some]
/-- a request, if there is one, in both -/
theorem sp_L60 (fu : Nat) (hfu : 70000 ≤ fu) {KN KS t T k c nw im ig hd ft F ek l : Nat} {b0 : Int32} {v : Nat → Nat} (h : TK A M KN KS t T im ig k c nw hd ft b0 v) (hk : k < 16) (hf : FI F ek im A M) (lv : (mF A 806 (342 + 4 * k)) = nI l) (l1 : l ≤ 65536) (lh : l = 0 ∨ hd = 0) (e1 : l = 0 → 1 ≤ hd → bv (mA A (344 + 4 * k) 0) ≠ 10) (e2 : l = 0 → 1 < hd → ¬ (bv (mA A (344 + 4 * k) 0) = 13 ∧ bv (mA A (344 + 4 * k) 1) = 10)) (h0 : (v 7) = 0) (h1 : (v 2) = 1 + (v 4) + (v 5)) (h2 : (v 1) = (v 2)) (hst : (v 0) = 2 ∨ (v 0) = 7) :
    ∃ A' M' hd' b0' v', fX16_oneRequest_L60 fu 323 (some (342 + 4 * k)) A = some (0, A') ∧ fX7_lookAt_L31 fu 319 (some c) (some (c + 2)) M = some M' ∧ TK A' M' KN KS t T im ig k c nw hd' ft b0' v' ∧ FWA k A A' ∧ FWM c M M' := by
  have hR := h.rw'
  have hW := h.xw
  have hC := h.cn
  have hA := rw_cnO hR k hk
  have c7 : okA M 0 (c + 2) := hC.2.2.2.2.2.2.1
  have hd1 := h.cr.hd1
  -- the head's length
  obtain ⟨r, g, r1, r2, r3, r4, r5, r6⟩ : ∃ r g, r ≤ hd ∧ (fX16_oneRequest_L60 fu 323 (some (342 + 4 * k)) A = fX16_oneRequest_L76 fu 323 (some (342 + 4 * k)) (nI r) A) ∧ fX7_copyHead fu 319 (some (c + 2)) M = some (nI r, wA M 320 g) ∧ (∀ j, j < r → g j = mA A (344 + 4 * k) j) ∧ (∀ j, isB (g j)) ∧ (r ≠ 0 → l = 0 ∧ bv (mA A (344 + 4 * k) (r - 1)) = 10) := by
    obtain ⟨r, g, s1, s2, s3, s4, s5, s6⟩ := sp_hb fu h hk hd 0 0 (fu - 1) (fu - 1) (by omega) (Nat.le_refl _) (by omega) (by omega)
    have eM : wA M 320 (fun j => if j < 0 then mA A (344 + 4 * k) j else mA M 320 j) = M := by
      rw [show (fun j => if j < 0 then mA A (344 + 4 * k) j else mA M 320 j) = mA M 320 from funext fun j => by rw [if_neg (by omega)], wA_mA]
    rw [eM, show fu - 1 + 1 = fu by omega] at s3
    rw [show fu - 1 + 1 = fu by omega] at s2
    have em : jmin (nI hd) (nI 4096) = nI hd := by rw [jmin_nI (by omega) (by omega), Nat.min_eq_left hd1]
    refine ⟨r, g, s1, ?_, ?_, s4, s5, ?_⟩
    · unfold fX16_oneRequest_L60
      rw [gI_ok hA, ob_some, lv]
      by_cases q : l = 0
      · rw [q, if_pos (show (nI 0 : Int32) = 0 from rfl), rc_ok (rw_ok323 hR), ob_some]
        unfold fX16_headBytes
        rw [rc_ok hA, ob_some, m_held hR hk, b2_some, hldA_nI h.cr]
        have s2' : fX16_headBytes_L10 fu fu (some (342 + 4 * k)) (0 : Int32) (nI hd) (0 : Int32) A = some (nI r, A) := s2
        rw [s2', b2_some]
      · rw [if_neg (show ¬ (nI l : Int32) = 0 from fun z => q ((nI_eq (a := l) (b := 0) (by omega) (by decide)).mp z))]
        have : r = 0 := by omega
        rw [this]
        rfl
    · unfold fX7_copyHead
      rw [rc_ok c7, ob_some, x_held c7, b2_some, ← hldX_eq h.cr, hldA_nI h.cr, gR_ok (xw_ok319 hW), ob_some, xw_g450_319 hW, aL_ok (xw_ok320 hW) (xw_ln320 hW), ob_some, em]
      exact s3
    · intro z
      exact ⟨by omega, s6 z⟩
  generalize hM0 : wA M 320 g = M0 at r3
  have fM0 : FQM M M0 := by subst hM0; exact FQM.w _ (Or.inl rfl)
  have bM0 : Bd RX TX M0 := by
    subst hM0
    exact Bd_wA h.bm (fun _ => r5)
  have tk0 := TK_q hk h h.ba bM0 FQA.rf fM0
  have c70 : okA M0 0 (c + 2) := tk0.cn.2.2.2.2.2.2.1
  unfold fX7_lookAt_L31
  rw [r2, rc_ok (xw_ok319 hW), ob_some, r3, b2_some]
  by_cases q : r = 0
  · rw [q]
    unfold fX16_oneRequest_L76
    rw [if_pos (by decide), if_pos (by decide), rc_ok hA, ob_some, m_held hR hk, b2_some, hldA_nI h.cr, rc_ok c70, ob_some, x_held c70, b2_some, ← hldX_eq tk0.cr, hldA_nI h.cr]
    by_cases q2 : hd = 4096
    · subst q2
      obtain ⟨A', M', b0', v', z1, z2, z3, z4, z5⟩ := sp_toolong fu hfu tk0 hk (FI_q hf FQA.rf fM0) h0 h1 h2 hst
      refine ⟨A', M', 0, b0', v', ?_, ?_, z3, z4, fM0.wm.tr z5⟩
      · rw [if_pos (show (nI 4096 : Int32) = (4096 : Int32) from rfl), rc_ok (rw_ok323 hR), ob_some, z1, ob_some, rN0]
      · rw [if_neg (by decide)]
        exact z2
    · rw [if_neg (show ¬ (nI hd : Int32) = (4096 : Int32) from fun z => q2 ((nI_eq (b := 4096) (by omega) (by decide)).mp z)), if_pos (show nI hd < (4096 : Int32) from nI_lt (b := 4096) (by omega) (by decide)), gI_ok hA, ob_some, h.cs.st, gI_ok tk0.cn.1, ob_some, ← tk0.ce.st, h.cs.st]
      by_cases q3 : (v 0) = 7
      · have e7 : (nI (v 0) : Int32) = (7 : Int32) := by rw [q3]; rfl
        rw [if_pos e7, if_pos e7, pZ_ok hA (Or.inr rfl), ob_some, rN0, pZ_ok tk0.cn.1 (Or.inr rfl), ob_some]
        refine ⟨_, _, hd, b0, _, rfl, rfl, TK_close tk0 q3 h0, ?_, fM0.wm.tr ?_⟩
        · exact (FF.ca (S := fun f => f = 798) (FF.s _ rfl) (by intro f hf; omega)).wa
        · exact (FF.cm (S := fun f => f = 74) (FF.s _ rfl) (Or.inl rfl)).wm
      · have e7 : ¬ (nI (v 0) : Int32) = (7 : Int32) := fun z => q3 ((nI_eq (b := 7) (by omega) (by decide)).mp z)
        rw [if_neg e7, if_neg e7, rN0]
        exact ⟨_, _, hd, b0, v, rfl, rfl, tk0, FWA.rf, fM0.wm⟩
  · obtain ⟨l0, r7⟩ := r6 q
    subst l0
    obtain ⟨A', M', hd', b0', v', z1, z2, z3, z4, z5⟩ := sp_answer fu hfu h hk hf (n := r) (g := g) (by omega) r1 r4 r5 r7 (e1 rfl (by omega)) (fun y => e2 rfl (by omega)) lv h0 h1 h2 hst
    rw [hM0] at z2
    refine ⟨A', M', hd', b0', v', ?_, ?_, z3, z4, z5⟩
    · unfold fX16_oneRequest_L76
      rw [if_neg (nI_nle (by omega) (by omega)), rc_ok (rw_ok323 hR), ob_some, z1, ob_some, rN0]
    · rw [if_neg (nI_nle (by omega) (by omega))]
      exact z2
end Look
