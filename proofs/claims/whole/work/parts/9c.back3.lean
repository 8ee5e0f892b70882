/-! ===== part 9c: a timer runs out: data go again, in both, whole ===== -/
section Back3
variable {A M A' M' : Mm}
theorem sp_backD (fu : Nat) (hfu : 4000 ≤ fu) {KN KS t T k c nw im ig hd ft x : Nat} {b0 : Int32} {v : Nat → Nat} (h : TK A M KN KS t T im ig k c nw hd ft b0 v) (hk : k < 16) (hst : sendSt (v 0)) (hon : (v 14) = 1) (hx : (mF A 791 (342 + 4 * k)) = nI x) (hx8 : x + 1 ≤ 8) (hT2 : T < 2 ^ 30) :
    ∃ A' M' T' v', fX16_runOut fu 323 (some (342 + 4 * k)) A = some A' ∧ fX9_runOut fu 317 (some c) M = some M' ∧ T ≤ T' ∧ T' ≤ T + 1 ∧ TK A' M' KN KS t T' im ig k c nw hd ft b0 v' ∧ FCA k A A' ∧ FCM c M M' ∧ (∀ g, g = 769 ∨ g = 770 ∨ g = 798 → mF A' g (342 + 4 * k) = mF A g (342 + 4 * k)) ∧ (mF A' 791 (342 + 4 * k)) = nI (x + 1) ∧ mA A' 330 5 = mA A 330 5 := by
  have hR := h.rw'
  have hW := h.xw
  have hC := h.cn
  have hE := h.ce
  have hP := h.cp
  have hI := h.ci
  have hS := h.cs
  have hr := h.cr
  have st1 : (v 0) ≠ 1 := by unfold sendSt at hst; omega
  have u1 := hS.sN1 st1
  have ulf : (v 1) < 1 + (v 4) + (v 5) + (v 7) := (hI.tm hon).2.2.2 (by omega)
  have hl1 : 1 ≤ lfN (bvN v) := by show 1 ≤ 1 + (v 4) + (v 5) + (v 7) - (v 1); omega
  have ms1 := hI.ms1
  have mL := hI.mL
  have b1 := hI.hl1
  have b2' := hI.bl1
  have cl1 := hI.cl1
  have um : (v 1) ≤ (v 3) := Nat.le_trans hI.ua hI.am
  have rr : 1 ≤ bkR v ∧ bkR v ≤ 1460 := by unfold bkR; split <;> omega
  have F1 := bkA_ff A k b0 v x
  obtain ⟨w73, w79, w80, w81, w86, w89, w91, w92⟩ := bkA_v A k b0 v x
  obtain ⟨y1, y2, y3, y4, y5, y6, y7, y8, yS, yG, yB, yA, yF⟩ := bkM_v M c b0 v x nw
  have hIw := CIw_back (x := x) h
  have hI0 := CI_back (x := x) h
  have runA := m_back fu h hk st1 hx hx8
  -- both sides' fields are the same
  have CEb : ∀ X : Mm, (∀ g, ¬ (g = 773 ∨ (778 ≤ g ∧ g ≤ 792)) → mF X g (342 + 4 * k) = mF A g (342 + 4 * k)) → mF X 773 (342 + 4 * k) = b0 + nI (v 1) → mA X = mA A → CE X (bkM M c b0 v x nw) k c := fun X FA' e73 eA => by
    have FC' : ∀ g, ¬ g = 69 → mF (bkM M c b0 v x nw) g c = mF M g c := fun g hg => yF g c (by omega) (fun e => hg e.1)
    have hdA : mA X (343 + 4 * k) = mA A (343 + 4 * k) := by rw [eA]
    have hdM : mA (bkM M c b0 v x nw) (c + 1) = mA M (c + 1) := by rw [yA]
    refine CE.mk ?_ ?_ ?_ ?_ ?_ ?_ ?_ ?_ ?_ ?_ ?_ ?_ ?_ ?_ ?_ ?_ ?_ ?_
    · exact (FA' 768 (by omega)).trans (hE.st.trans (FC' 64 (by omega)).symm)
    · exact (FA' 769 (by omega)).trans (hE.ip.trans (FC' 65 (by omega)).symm)
    · exact (FA' 770 (by omega)).trans (hE.po.trans (FC' 66 (by omega)).symm)
    · exact (FA' 771 (by omega)).trans (hE.is.trans (FC' 67 (by omega)).symm)
    · exact (FA' 772 (by omega)).trans (hE.una.trans (FC' 68 (by omega)).symm)
    · exact e73.trans y8.symm
    · exact (FA' 774 (by omega)).trans (hE.max.trans (FC' 70 (by omega)).symm)
    · exact (FA' 775 (by omega)).trans (hE.wi.trans (FC' 71 (by omega)).symm)
    · exact (FA' 776 (by omega)).trans (hE.w1.trans (FC' 82 (by omega)).symm)
    · exact (FA' 777 (by omega)).trans (hE.w2.trans (FC' 83 (by omega)).symm)
    · exact (FA' 794 (by omega)).trans (hE.hl.trans (FC' 78 (by omega)).symm)
    · exact (FA' 796 (by omega)).trans (hE.bl.trans (FC' 76 (by omega)).symm)
    · rw [FA' 796 (by omega), FA' 795 (by omega), FC' 75 (by omega)]; exact hE.bp
    · exact (FA' 797 (by omega)).trans (hE.bg.trans (FC' 77 (by omega)).symm)
    · exact (FA' 798 (by omega)).trans (hE.cl.trans (FC' 74 (by omega)).symm)
    · rw [FA' 768 (by omega), FA' 812 (by omega), FC' 73 (by omega)]; exact hE.la
    · rw [FA' 768 (by omega), FA' 813 (by omega), FC' 72 (by omega)]; exact hE.li
    · rw [FA' 794 (by omega), hdA, hdM]; exact hE.hd
  have s85 : ∀ g, g ≠ 785 → mF (sF (bkA A k b0 v x) 785 (342 + 4 * k) 0) g (342 + 4 * k) = mF (bkA A k b0 v x) g (342 + 4 * k) := fun g hg => by rw [mF_sF, if_neg (fun e => hg e.1)]
  have FA1 : ∀ g, ¬ (g = 773 ∨ g = 779 ∨ g = 780 ∨ g = 781 ∨ g = 786 ∨ g = 789 ∨ g = 791 ∨ g = 792) → mF (bkA A k b0 v x) g (342 + 4 * k) = mF A g (342 + 4 * k) := fun g hg => F1.2.2.2.2 g _ (fun e => hg e.1)
  have hE1 : CE (bkA A k b0 v x) (bkM M c b0 v x nw) k c := CEb _ (fun g hg => FA1 g (by omega)) w73 F1.2.2.2.1
  have hE0 : CE (sF (bkA A k b0 v x) 785 (342 + 4 * k) 0) (bkM M c b0 v x nw) k c := CEb _ (fun g hg => (s85 g (by omega)).trans (FA1 g (by omega))) ((s85 773 (by decide)).trans w73) F1.2.2.2.1
  have runX := x_back fu h hk st1 hx hx8 hE0 hl1
  generalize hA1 : bkA A k b0 v x = A1 at F1 w73 w79 w80 w81 w86 w89 w91 w92 hIw hI0 runA hE1 hE0 s85 FA1
  generalize hM1 : bkM M c b0 v x nw = M1 at y1 y2 y3 y4 y5 y6 y7 y8 yS yG yB yA yF hE1 hE0 runX
  clear CEb hA1 hM1
  have hP5 : ∀ g, ¬ (321 ≤ g ∧ g ≤ 327) → mF M1 g (c + 5) = mF M g (c + 5) := fun g hg => yF g _ (fun e => hg e.1) (by omega)
  obtain ⟨⟨z1, z2, z3, z4, z5, z6, z7⟩, z8, z9⟩ := TK_base (A' := A1) (M' := M1) (u := 0) h h.t1000 F1.1 F1.2.1 F1.2.2.1 F1.2.2.2.1 (fun f a hh => F1.2.2.2.2 f a (fun e => hh ⟨by omega, by omega, e.2⟩)) yS yG yB yA (fun f a g1 g2 g3 => yF f a (fun e => g3 e.2) (fun e => g1 e.2))
  have hQ1 : CQ A1 M1 k c := by
    refine CQ.mk ?_ ?_ ?_ ?_ ?_ ?_ ?_ ?_ ?_ ?_
    · rw [FA1 778 (by omega), hP5 320 (by omega)]; exact hP.ms
    · rw [w80, y2]
    · rw [w81, y6]
    · rw [w91, y1]
    · rw [w92, y5]
    · rw [FA1 785 (by omega), hP5 328 (by omega)]; exact hP.ti
    · rw [FA1 785 (by omega), FA1 787 (by omega), FA1 788 (by omega), hP5 329 (by omega), hP5 330 (by omega)]; exact hP.tn
    · rw [FA1 784 (by omega), hP5 331 (by omega)]; exact hP.me
    · rw [FA1 784 (by omega), FA1 782 (by omega), FA1 783 (by omega), hP5 332 (by omega), hP5 333 (by omega)]; exact hP.sv
    · refine Or.inr (Or.inr ⟨w89, ?_⟩)
      have n304 := nec (Or.inl hC) (xw_ok304 hW)
      rw [y7, y6, yF 641 304 (by omega) (by omega), h.wnow, nI_add]
  have CSb : ∀ X : Mm, (∀ g, ¬ (g = 773 ∨ (778 ≤ g ∧ g ≤ 792)) → mF X g (342 + 4 * k) = mF A g (342 + 4 * k)) → ∀ w, (∀ i, i ≠ 2 → i ≠ 10 → i ≠ 11 → i ≠ 12 → i ≠ 14 → i ≠ 16 → w i = v i) → w 2 = (v 1) → CS X k nw b0 w := fun X FA' w hw w2 => by
    have e0 : w 0 = (v 0) := hw 0 (by decide) (by decide) (by decide) (by decide) (by decide) (by decide)
    have e1 : w 1 = (v 1) := hw 1 (by decide) (by decide) (by decide) (by decide) (by decide) (by decide)
    have e3 : w 3 = (v 3) := hw 3 (by decide) (by decide) (by decide) (by decide) (by decide) (by decide)
    have e4 : w 4 = (v 4) := hw 4 (by decide) (by decide) (by decide) (by decide) (by decide) (by decide)
    have e5 : w 5 = (v 5) := hw 5 (by decide) (by decide) (by decide) (by decide) (by decide) (by decide)
    have e7 : w 7 = (v 7) := hw 7 (by decide) (by decide) (by decide) (by decide) (by decide) (by decide)
    have e8 : w 8 = (v 8) := hw 8 (by decide) (by decide) (by decide) (by decide) (by decide) (by decide)
    have e22 : w 22 = (v 22) := hw 22 (by decide) (by decide) (by decide) (by decide) (by decide) (by decide)
    have e23 : w 23 = (v 23) := hw 23 (by decide) (by decide) (by decide) (by decide) (by decide) (by decide)
    refine CS.mk ?_ ?_ ?_ ?_ ?_ ?_ ?_ ?_ ?_
    · rw [FA' 768 (by omega), e0]; exact hS.st
    · rw [e0]; exact hS.st1
    · rw [e0]; exact fun z => absurd z st1
    · rw [e1]; exact fun _ => u1
    · rw [e0, e8]; exact hS.s27
    · rw [e0, e8, e1, e4, e5]; exact hS.s358
    · rw [e0, e8, e1, e4, e5]; exact hS.s46
    · rw [e0, e22, FA' 812 (by omega)]
      intro z
      obtain ⟨q1, q2, q3⟩ := hS.la z
      refine ⟨q1, q2, fun g1 g2 g3 g4 => ?_⟩
      rw [e7] at g2
      rw [w2, e4, e5] at g4
      omega
    · rw [e0, e23, FA' 813 (by omega)]; exact hS.si
  have hS1 : CS A1 k nw b0 (bvN v) := CSb A1 (fun g hg => FA1 g (by omega)) _ (fun i a2 a10 a11 a12 a14 _ => by
    unfold bvN
    rw [if_neg a2, if_neg a10, if_neg a11, if_neg a12, if_neg a14]) rfl
  have hS0 : CS (sF A1 785 (342 + 4 * k) 0) k nw b0 (uv (bvN v) 16 0) := CSb _ (fun g hg => (s85 g (by omega)).trans (FA1 g (by omega))) _ (fun i a2 a10 a11 a12 a14 a16 => by
    rw [uv_at, if_neg a16]
    unfold bvN
    rw [if_neg a2, if_neg a10, if_neg a11, if_neg a12, if_neg a14]) rfl
  have hr1 : CR A1 M1 k c hd ft := CR_congr (A := A) (M := M) (fun g hg => FA1 g (by omega)) (by rw [F1.2.2.2.1]) (by rw [F1.2.2.2.1]) (fun g hg => yF g _ (by omega) (by omega)) (by rw [yA]) (by rw [yA]) hr
  have hs : segOk (bvN v) (v 1) (dnN (bvN v) (bkR v)) (dfN (bvN v) (bkR v)) := dd_seg (v := bvN v) hl1 rr.1 ms1.1 cl1 u1 um
  have hs0 : segOk (uv (bvN v) 16 0) (v 1) (dnN (bvN v) (bkR v)) (dfN (bvN v) (bkR v)) := hs
  obtain ⟨w, hw⟩ := ntd_ex (bvN v) nw (v 1)
  obtain ⟨w0, hw0⟩ := ntd_ex (uv (bvN v) 16 0) nw (v 1)
  have one := m_one_eq (A := A1) fu z1.1 hk hIw hl1 (r := bkR v) (by omega)
  obtain ⟨A2, M2, T', r1, r2, r3, r4, r5, r6, r7, r8, r9, r10, r11, ⟨q1, q2, q3⟩, r13, r14, r15, r16, r17, r18, r19, r20, r21, r22⟩ := sp_dataOut0 fu hfu z1 z2 z3 hT2 hk z6 hE1 hQ1 hIw hS1 hr1 z4 z5 z7 h.n2 hst hs hw
  generalize hdn : dnN (bvN v) (bkR v) = n at *
  generalize hdf : dfN (bvN v) (bkR v) = fi at *
  have hs' := hs
  obtain ⟨f1, f2, f3, f4, f5, f6, -⟩ := hs'
  have f2' : (v 1) ≤ (v 3) := f2
  have f4' : (v 1) - 1 + n ≤ (v 4) + (v 5) := f4
  have e74 : (mF A2 774 (342 + 4 * k)) = b0 + nI (v 3) := (r22 774 (by omega) (by decide)).trans ((FA1 774 (by omega)).trans hI.max)
  have e73 : (mF A2 773 (342 + 4 * k)) = b0 + nI (v 1) := (r22 773 (by omega) (by decide)).trans w73
  have e69 : (mF M2 69 c) = b0 + nI (v 1) := by rw [← r11.at']; exact e73
  have e70 : (mF M2 70 c) = b0 + nI (v 3) := by rw [← r11.max]; exact e74
  obtain ⟨s1, s2, hxx⟩ : ∃ s1 s2, (if nI fi = 0 then fX16_one_L69 fu (some (342 + 4 * k)) (some (342 + 4 * k)) ((b0 + nI (v 1)) + nI n) (0 : Int32) A2 else fX16_one_L69 fu (some (342 + 4 * k)) (some (342 + 4 * k)) ((b0 + nI (v 1)) + nI n) (1 : Int32) A2) = fX16_one_L69 fu (some (342 + 4 * k)) (some (342 + 4 * k)) s1 s2 A2 ∧ s1 + s2 = b0 + nI ((v 1) + n + fi) := by
    by_cases q : fi = 1
    · subst q
      refine ⟨(b0 + nI (v 1)) + nI n, 1, by rw [if_neg (show ¬ nI 1 = 0 by decide)], ?_⟩
      rw [Int32.add_assoc b0, nI_add, Int32.add_assoc, nI_1]
    · have q0 : fi = 0 := by omega
      subst q0
      refine ⟨(b0 + nI (v 1)) + nI n, 0, by rw [if_pos (show nI 0 = 0 from rfl)], ?_⟩
      rw [Int32.add_zero, Int32.add_assoc, nI_add]
      rfl
  obtain ⟨A3, p1, p2, p3, p4⟩ := m_adv (A := A2) (a := 0) fu r5.1 hk e74 (by omega) (by omega) s1 s2 hxx.2
  obtain ⟨M3, t1, t2, t3, t4⟩ := x_adv (M := M2) (a := (v 1)) (x := n + fi) fu r10.1 e69 e70 (by omega) (by omega)
  rw [show (v 1) + (n + fi) = (v 1) + n + fi by omega] at t3 t4
  have FA' : ∀ g, ¬ (g = 773 ∨ g = 774) → mF A3 g (342 + 4 * k) = mF A2 g (342 + 4 * k) := fun g hg => p2.2.2.2.2 g _ (fun e => hg e.1)
  have FC' : ∀ g, ¬ (g = 69 ∨ g = 70) → mF M3 g c = mF M2 g c := fun g hg => t2.2.2.2.2 g _ (fun e => hg e.1)
  have FMo : ∀ g o, o ≠ c → mF M3 g o = mF M2 g o := fun g o ho => t2.2.2.2.2 g _ (fun e => ho e.2)
  obtain ⟨-, -, -, -, -, -, -, -, -, -, -, -, -, -, -, wtm, wti, wtn, wta, -⟩ := hw
  have hw0' := hw0
  obtain ⟨-, -, -, -, -, -, -, -, -, -, -, -, -, -, -, wtm0, wti0, wtn0, wta0, -⟩ := hw0'
  have etm : (w 15) = nw + bkO v := wtm
  have etm0 : (w0 15) = nw + bkO v := wtm0
  have eti : (w 16) = (w0 16) := wti.trans wti0.symm
  have f77 : ∀ g, 772 ≤ g → g ≤ 799 → ¬ (g = 773 ∨ g = 774 ∨ g = 785 ∨ g = 787 ∨ g = 788 ∨ g = 789 ∨ g = 790 ∨ g = 799) → mF A3 g (342 + 4 * k) = mF (sF A1 785 (342 + 4 * k) 0) g (342 + 4 * k) := fun g h1 h2 h3 => by
    rw [s85 g (by omega), FA' g (by omega)]
    exact r22 g (by omega) (by omega)
  obtain ⟨v', i1, i2, i3⟩ := CI_adv (A' := A3) hI0 hs0 hw0 h.n2 p3 p4 ((FA' _ (by omega)).trans r17) ((FA' _ (by omega)).trans (by rw [← eti]; exact r18)) (fun hh => by
    have hh' : (w 16) = 1 := eti.trans hh
    have nm : ¬ (v 1) < (v 3) := fun e => by
      have : (w 16) = 0 := wti.trans (if_pos e)
      omega
    have nt : (v 16) ≠ 1 := fun e => by
      obtain ⟨-, -, a3, a4, -⟩ := hI.tn e
      omega
    have ntb : ¬ bvN v 16 = 1 := nt
    have etn : (w 17) = (w0 17) := by
      rw [wtn, wtn0, if_neg ntb, if_neg (show ¬ uv (bvN v) 16 0 16 = 1 from by show ¬ (0 : Nat) = 1; decide)]
    have eta : (w 18) = (w0 18) := by
      rw [wta, wta0, if_neg ntb, if_neg (show ¬ uv (bvN v) 16 0 16 = 1 from by show ¬ (0 : Nat) = 1; decide)]
    exact ⟨(FA' _ (by omega)).trans (by rw [← etn]; exact (r19 hh').1), (FA' _ (by omega)).trans (by rw [← eta]; exact (r19 hh').2)⟩) ((FA' _ (by omega)).trans r20) ((FA' _ (by omega)).trans (by rw [etm0, ← etm]; exact r21)) f77
  have hS' := CS_adv (A' := A3) hI0 hS0 hst hs0 i2 i3 ((FA' _ (by omega)).trans r16) (by rw [FA' 812 (by omega), r22 812 (by omega) (by decide), s85 812 (by decide)])
  have nS : ∀ f, f = 773 ∨ f = 774 → 768 ≤ f ∧ f < 832 := fun f hh => by omega
  have hA2 := rw_cnO r5.1 k hk
  have hR3 : RW A3 := p2.rW r5.1
  have hA3 := rw_cnO hR3 k hk
  have now3 : mF A3 1034 323 = nI nw := by
    rw [p2.2.2.2.2 1034 323 (by omega), r14.2.2.2.1 1034 323 (by unfold PCa PL; omega)]; exact z7
  have ts : fX16_timerSet fu 323 (some (342 + 4 * k)) A3 = some A3 := by
    have a89 : mF A3 789 (342 + 4 * k) = 1 := (FA' 789 (by omega)).trans r20
    have a81 : mF A3 781 (342 + 4 * k) = nI (bkO v) := (FA' 781 (by omega)).trans ((r22 781 (by omega) (by decide)).trans w81)
    have a90 : mF A3 790 (342 + 4 * k) = nI (nw + bkO v) := by rw [FA' 790 (by omega), ← etm]; exact r21
    unfold fX16_timerSet
    rw [pZ_ok hA3 (Or.inr rfl), ob_some, sF_id a89, gI_ok (rw_ok323 hR3), ob_some, gI_ok hA3, ob_some, now3, a81, nI_add, pF_ok hA3, ob_some, sF_id a90]
  have hone : fX16_one fu 323 (some (342 + 4 * k)) (nI (bkR v)) A1 = some A3 := by
    rw [one]
    unfold fX16_one_L36
    rw [gI_ok (rw_cnO z1.1 k hk), ob_some, rc_ok (rw_ok323 z1.1), ob_some, w73, r1, ob_some, hxx.1, p1]
  refine ⟨A3, M3, T', v', ?_, ?_, r3, r4, ?_, (z8.tr r14).tr (p2.ca nS), (z9.tr r15).tr (t2.cm (Or.inl rfl)), fun g hg => ?_, ?_, ?_⟩
  · rw [runA]
    unfold fX16_runOut_L195 fX16_runOut_L198
    rw [rc_ok (rw_ok323 z1.1), ob_some, hone, ob_some, rc_ok (rw_ok323 hR3), ob_some, ts, ob_some]
  · rw [runX]
    unfold fX9_runOut_L185
    rw [gI_ok z6.1, ob_some, y8, rc_ok (xw_ok317 z1.2.1), ob_some, r2, ob_some, rc_ok r10.1, ob_some, t1, ob_some]
  · refine TK.mk ?_ ?_ ?_ ?_ ?_ (t2.cN r10) ?_ ?_ i1 hS' ?_ ?_ h.n2
    · exact JL0_cn r5 r10 p2.1 p2.2.1 p2.2.2.1 (fun g a hh => p2.2.2.2.2 g a (fun e => by unfold JLf at hh; omega)) (fun a _ => by rw [p2.2.2.2.1]) t2.1 t2.2.1 t2.2.2.1 (fun g a h1 _ _ _ => FMo g a h1) (fun a _ _ _ _ _ _ _ => by rw [t2.2.2.2.1])
    · exact Bd_same r6 p2.1 p2.2.1 p2.2.2.1 p2.2.2.2.1
    · exact Bd_same r7 t2.1 t2.2.1 t2.2.2.1 t2.2.2.2.1
    · intro i hi
      rw [p2.2.2.2.1, t2.2.2.2.1]; exact r8 i hi
    · obtain ⟨j1, j2, j3, j4, j5, j6⟩ := r9
      unfold JI okA
      rw [t2.1, t2.2.1, t2.2.2.2.1, p2.2.2.2.1]
      exact ⟨j1, j2, j3, j4, j5, j6⟩
    · have hdA : mA A3 (343 + 4 * k) = mA A2 (343 + 4 * k) := by rw [p2.2.2.2.1]
      have hdM : mA M3 (c + 1) = mA M2 (c + 1) := by rw [t2.2.2.2.1]
      refine CE.mk ?_ ?_ ?_ ?_ ?_ ?_ ?_ ?_ ?_ ?_ ?_ ?_ ?_ ?_ ?_ ?_ ?_ ?_
      · exact (FA' 768 (by omega)).trans (r11.st.trans (FC' 64 (by omega)).symm)
      · exact (FA' 769 (by omega)).trans (r11.ip.trans (FC' 65 (by omega)).symm)
      · exact (FA' 770 (by omega)).trans (r11.po.trans (FC' 66 (by omega)).symm)
      · exact (FA' 771 (by omega)).trans (r11.is.trans (FC' 67 (by omega)).symm)
      · exact (FA' 772 (by omega)).trans (r11.una.trans (FC' 68 (by omega)).symm)
      · rw [p3, t3]
      · rw [p4, t4]
      · exact (FA' 775 (by omega)).trans (r11.wi.trans (FC' 71 (by omega)).symm)
      · exact (FA' 776 (by omega)).trans (r11.w1.trans (FC' 82 (by omega)).symm)
      · exact (FA' 777 (by omega)).trans (r11.w2.trans (FC' 83 (by omega)).symm)
      · exact (FA' 794 (by omega)).trans (r11.hl.trans (FC' 78 (by omega)).symm)
      · exact (FA' 796 (by omega)).trans (r11.bl.trans (FC' 76 (by omega)).symm)
      · rw [FA' 796 (by omega), FA' 795 (by omega), FC' 75 (by omega)]; exact r11.bp
      · exact (FA' 797 (by omega)).trans (r11.bg.trans (FC' 77 (by omega)).symm)
      · exact (FA' 798 (by omega)).trans (r11.cl.trans (FC' 74 (by omega)).symm)
      · rw [FA' 768 (by omega), FA' 812 (by omega), FC' 73 (by omega)]; exact r11.la
      · rw [FA' 768 (by omega), FA' 813 (by omega), FC' 72 (by omega)]; exact r11.li
      · rw [FA' 794 (by omega), hdA, hdM]; exact r11.hd
    · refine CP_congr (A := A2) (M := M2) (fun g h1 h2 => FA' g (by omega)) (fun g h1 h2 => FMo g _ (by omega)) (CP.mk q1.ms ?_ q1.ss q1.ro q1.tr q1.du ?_ q1.ti q1.tn q1.me q1.sv (Or.inr ⟨r20, q3⟩))
      · rw [r22 779 (by omega) (by decide), w79, q2 321 (by omega), y3]
      · rw [r22 786 (by omega) (by decide), w86, q2 327 (by omega), y4]
    · exact CR_congr (A := A2) (M := M2) (fun g hg => FA' g (by omega)) (by rw [p2.2.2.2.1]) (by rw [p2.2.2.2.1]) (fun g _ => FMo g _ (by omega)) (by rw [t2.2.2.2.1]) (by rw [t2.2.2.2.1]) r13
    · exact now3
  · rw [FA' g (by omega), r22 g (by omega) (by omega), FA1 g (by omega)]
  · rw [FA' 791 (by omega), r22 791 (by omega) (by decide)]; exact w91
  · rw [(zX16_one fu 323 _ _ A1 z1.1 rfl hone).1.2.2.2.2.1, F1.2.2.2.1]
end Back3
