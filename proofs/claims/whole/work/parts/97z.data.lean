/-! ===== part 97z: a segment's data, in both ===== -/
section Data4
variable {A A' M M' : Mm}
theorem est_b (s : Nat) : 2 ≤ est s ∧ est s ≤ 8 := by
  unfold est
  by_cases q : s = 2
  · rw [if_pos q]; decide
  · rw [if_neg q]
    by_cases q : s = 3
    · rw [if_pos q]; decide
    · rw [if_neg q]; decide
theorem sp_data (fu : Nat) (hfu : 5000 ≤ fu) {KN KS t T k c nw im ig hd ft bd da dx dl w : Nat} {b0 : Int32} {v : Nat → Nat} (h : TK A M KN KS t T im ig k c nw hd ft b0 v) (hk : k < 16) (hG : SG A M bd da dx dl w) (h1 : (v 0) ≠ 1) :
    ∃ A' M' hd' ft' v', (∀ {β : Type} (K : Mm → Option β), (fX16_arrived fu 323 (some (342 + 4 * k)) A).bind (fun M17 => (gI M17 12 768 (some (342 + 4 * k))).bind fun v18 => if v18 = (6 : Int32) then (rc M17 16 (some 323)).bind fun q19 => b2 (fX16_is fu q19 (1 : Int32) M17) fun v21 M20 => if v21 = 0 then K M20 else (gI M20 16 1034 (some 323)).bind fun v22 => (pF M20 12 813 (some (342 + 4 * k)) v22).bind fun M23 => K M23 else K M17) = K A') ∧ fX9_takeData fu 317 (some c) M = some M' ∧ TK A' M' KN KS t T im ig k c nw hd' ft' b0 v' ∧ FCA k A A' ∧ FCM c M M' ∧ (v' 0) ≠ 1 := by
  have hR := h.rw'
  have hW := h.xw
  have hA := rw_cnO hR k hk
  have o323 := rw_ok323 hR
  have o3 := xw_ok314 hW
  have o317 := xw_ok317 hW
  have hC := h.cn
  have c1 := hC.1
  have hE := h.ce
  have hP := h.cp
  have hI := h.ci
  have hS := h.cs
  have hr := h.cr
  have hs1 := hS.st1
  have one0 : ¬ (1 : Int32) = 0 := by decide
  have stA : ∀ x : Nat, x < 100 → ((mF A 768 (342 + 4 * k)) = nI x ↔ (v 0) = x) := fun x hx => by
    rw [hS.st]
    exact nI_eq (by omega) (by omega)
  have st1 : (mF A 768 (342 + 4 * k)) = (1 : Int32) ↔ (v 0) = 1 := stA 1 (by decide)
  have st2 : (mF A 768 (342 + 4 * k)) = (2 : Int32) ↔ (v 0) = 2 := stA 2 (by decide)
  have st3 : (mF A 768 (342 + 4 * k)) = (3 : Int32) ↔ (v 0) = 3 := stA 3 (by decide)
  have st4 : (mF A 768 (342 + 4 * k)) = (4 : Int32) ↔ (v 0) = 4 := stA 4 (by decide)
  have st6 : (mF A 768 (342 + 4 * k)) = (6 : Int32) ↔ (v 0) = 6 := stA 6 (by decide)
  by_cases hst : (v 0) = 2 ∨ (v 0) = 3 ∨ (v 0) = 4
  · obtain ⟨A1, M1, hd', tk, e1, e2, e3, e4, e5, e6, e7, e8, e9, e10, e11, e12, e13, e14, e15, e16, e17, e18, e19, e20, e21, e22, e23, e24, e25, e26, e27, e28⟩ := sp_come fu hfu h hk hG hst
    have hR1 : RW A1 := by rw [show RW A1 = RW A from by unfold RW okA; rw [e5, e6, e7]]; exact hR
    have hA1 := rw_cnO hR1 k hk
    have hla := hS.la h1
    obtain ⟨la', l1, l2, l3⟩ : ∃ la', (mF A1 812 (342 + 4 * k)) = nI la' ∧ la' ≤ nw ∧ (la' = (v 22) ∨ la' = nw) := by
      rcases e23 with q | q
      · exact ⟨(v 22), q.trans hla.1, hla.2.1, Or.inl rfl⟩
      · exact ⟨nw, q, Nat.le_refl _, Or.inr rfl⟩
    have FA' : ∀ g, ¬ (g = 768 ∨ g = 804 ∨ g = 807 ∨ g = 808 ∨ g = 809 ∨ g = 810 ∨ g = 812 ∨ g = 813) → mF A1 g (342 + 4 * k) = mF A g (342 + 4 * k) := fun g hg => e13 g _ (fun e => hg e.1)
    have FC' : ∀ g, ¬ (g = 64 ∨ g = 72 ∨ g = 73) → mF M1 g c = mF M g c := fun g hg => e14 g _ (fun e => hg e.1) (by omega)
    have FR' : ∀ g, ¬ (g = 1 ∨ g = 4 ∨ g = 7 ∨ g = 8 ∨ g = 9) → mF M1 g (c + 2) = mF M g (c + 2) := fun g hg => e14 g _ (by omega) (fun e => hg e.1)
    have FP' : ∀ g, ¬ 100000 ≤ g → mF M1 g (c + 5) = mF M g (c + 5) := fun g _ => e14 g _ (by omega) (by omega)
    have hdA : mA A1 (343 + 4 * k) = mA A (343 + 4 * k) := e8 _ (by omega) (by omega)
    have hdM : mA M1 (c + 1) = mA M (c + 1) := e12 _ (by omega) (by omega)
    obtain ⟨z1, z2, z3⟩ := TB_upd2 (k := k) (u := 0) h.tb h.t1000 (oX16_arrived fu 323 _ A h.ba (by unfold RM; omega) (inR_some (by unfold RM; omega)) e1).2 (oX9_takeData fu 317 _ M h.bm (by unfold RX; omega) (inR_some (h.bm.1 c 1 c1 (by unfold TX; omega))) e2).2 e5 e6 e7 (fun a hh => e8 a (by omega) (by omega)) hk (fun f a hh => e13 f a (by omega)) e9 e10 e11 (fun a _ h3 h4 => e12 a h3 h4) (fun f a g1 g2 _ => e14 f a (fun e => g1 e.2) (fun e => g2 e.2))
    have hrd : (mF A1 803 (342 + 4 * k)) = (mF A 803 (342 + 4 * k)) := FA' _ (by omega)
    -- the state after
    obtain ⟨s', s1, s2, s3, s4⟩ : ∃ s', (mF A1 768 (342 + 4 * k)) = nI s' ∧ (mF M1 64 c) = nI s' ∧ ((tk = 0 ∧ s' = (v 0)) ∨ (tk = 1 ∧ s' = est (v 0))) ∧ 2 ≤ s' ∧ s' ≤ 8 := by
      have : tk = 0 ∨ tk = 1 := by omega
      rcases this with q | q
      · obtain ⟨g1, g2, -⟩ := e24 q
        exact ⟨(v 0), g1.trans hS.st, by rw [g2, ← hE.st]; exact hS.st, Or.inl ⟨q, rfl⟩, by omega, by omega⟩
      · obtain ⟨g1, g2, -⟩ := e25 q
        exact ⟨est (v 0), g1, g2, Or.inr ⟨q, rfl⟩, (est_b _).1, (est_b _).2⟩
    have sx : ∀ x : Nat, x < 100 → ((mF A1 768 (342 + 4 * k)) = nI x ↔ s' = x) := fun x hx => by
      rw [s1]
      exact nI_eq (by omega) (by omega)
    have est4 : tk = 1 → (((v 0) = 2 ∧ s' = 7) ∨ ((v 0) = 3 ∧ s' = 5) ∨ ((v 0) = 4 ∧ s' = 6)) := fun q => by
      rcases s3 with ⟨g, -⟩ | ⟨-, g⟩
      · omega
      · rw [g]
        unfold est
        rcases hst with y | y | y <;> rw [y] <;> decide
    have kk : tk = 0 → s' = (v 0) := fun q => by
      rcases s3 with ⟨-, g⟩ | ⟨g, -⟩
      · exact g
      · omega
    have hsi : s' = 6 → (mF A1 813 (342 + 4 * k)) = nI nw ∧ (mF M1 72 c) = nI nw + 60000 := fun q => by
      by_cases y : tk = 1
      · exact (e25 y).2.2 (by have := est4 y; omega)
      · have := kk (by omega)
        omega
    have hli : (mF A1 768 (342 + 4 * k)) = 4 ∨ (mF A1 768 (342 + 4 * k)) = 6 → (mF M1 72 c) = (mF A1 813 (342 + 4 * k)) + 60000 := fun e => by
      rcases e with e | e
      · have y := (sx 4 (by decide)).mp e
        have y0 : tk = 0 := by
          by_cases q : tk = 1
          · have := est4 q; omega
          · omega
        obtain ⟨-, -, g3, g4⟩ := e24 y0
        rw [g3, g4]
        exact hE.li (Or.inl (st4.mpr (by have := kk y0; omega)))
      · obtain ⟨g1, g2⟩ := hsi ((sx 6 (by decide)).mp e)
        rw [g1, g2]
    have hcst : tk = 0 ↔ ((mF A1 768 (342 + 4 * k)) = 1 ∨ (mF A1 768 (342 + 4 * k)) = 2 ∨ (mF A1 768 (342 + 4 * k)) = 3 ∨ (mF A1 768 (342 + 4 * k)) = 4) := by
      constructor
      · intro q
        rw [s1, kk q]
        rcases hst with y | y | y <;> rw [y] <;> decide
      · intro e
        by_cases q : tk = 1
        · exfalso
          rw [s1] at e
          rcases est4 q with ⟨-, y⟩ | ⟨-, y⟩ | ⟨-, y⟩ <;> rw [y] at e <;> exact absurd e (by decide)
        · omega
    refine ⟨A1, M1, hd', tk, fun i => if i = 0 then s' else if i = 22 then la' else if i = 23 then (if s' = 6 then nw else (v 23)) else v i, fun K => ?_, e2, z1.tk ?_ ?_ ?_ ?_ ?_, z2, z3, by show s' ≠ 1; omega⟩
    · rw [e1, ob_some, gI_ok hA1, ob_some]
      by_cases q : s' = 6
      · have hsi' := (hsi q).1
        rw [if_pos (show (mF A1 768 (342 + 4 * k)) = (6 : Int32) from (sx 6 (by decide)).mpr q), rc_ok (rw_ok323 hR1), ob_some, m_is fu hR1, b2_some, if01, gI_ok (rw_ok323 hR1), ob_some, z1.nw, pF_ok hA1, ob_some, sF_id hsi', ite_self]
      · rw [if_neg (show ¬ (mF A1 768 (342 + 4 * k)) = (6 : Int32) from fun e => q ((sx 6 (by decide)).mp e))]
    · refine CE.mk ?_ ?_ ?_ ?_ ?_ ?_ ?_ ?_ ?_ ?_ ?_ ?_ ?_ ?_ ?_ ?_ ?_ ?_
      · rw [s1, s2]
      · exact (FA' 769 (by omega)).trans (hE.ip.trans (FC' 65 (by omega)).symm)
      · exact (FA' 770 (by omega)).trans (hE.po.trans (FC' 66 (by omega)).symm)
      · exact (FA' 771 (by omega)).trans (hE.is.trans (FC' 67 (by omega)).symm)
      · exact (FA' 772 (by omega)).trans (hE.una.trans (FC' 68 (by omega)).symm)
      · exact (FA' 773 (by omega)).trans (hE.at'.trans (FC' 69 (by omega)).symm)
      · exact (FA' 774 (by omega)).trans (hE.max.trans (FC' 70 (by omega)).symm)
      · exact (FA' 775 (by omega)).trans (hE.wi.trans (FC' 71 (by omega)).symm)
      · exact (FA' 776 (by omega)).trans (hE.w1.trans (FC' 82 (by omega)).symm)
      · exact (FA' 777 (by omega)).trans (hE.w2.trans (FC' 83 (by omega)).symm)
      · exact (FA' 794 (by omega)).trans (hE.hl.trans (FC' 78 (by omega)).symm)
      · exact (FA' 796 (by omega)).trans (hE.bl.trans (FC' 76 (by omega)).symm)
      · rw [FA' 796 (by omega), FA' 795 (by omega), FC' 75 (by omega)]; exact hE.bp
      · exact (FA' 797 (by omega)).trans (hE.bg.trans (FC' 77 (by omega)).symm)
      · exact (FA' 798 (by omega)).trans (hE.cl.trans (FC' 74 (by omega)).symm)
      · exact fun _ => e22
      · exact hli
      · rw [FA' 794 (by omega), hdA, hdM]; exact hE.hd
    · refine CP.mk ?_ ?_ ?_ ?_ ?_ ?_ ?_ ?_ ?_ ?_ ?_ ?_
      · exact (FA' 778 (by omega)).trans (hP.ms.trans (FP' 320 (by omega)).symm)
      · exact (FA' 779 (by omega)).trans (hP.cw.trans (FP' 321 (by omega)).symm)
      · exact (FA' 780 (by omega)).trans (hP.ss.trans (FP' 322 (by omega)).symm)
      · exact (FA' 781 (by omega)).trans (hP.ro.trans (FP' 323 (by omega)).symm)
      · exact (FA' 791 (by omega)).trans (hP.tr.trans (FP' 325 (by omega)).symm)
      · exact (FA' 792 (by omega)).trans (hP.du.trans (FP' 326 (by omega)).symm)
      · exact (FA' 786 (by omega)).trans (hP.re.trans (FP' 327 (by omega)).symm)
      · exact (FA' 785 (by omega)).trans (hP.ti.trans (FP' 328 (by omega)).symm)
      · rw [FA' 785 (by omega), FA' 787 (by omega), FA' 788 (by omega), FP' 329 (by omega), FP' 330 (by omega)]; exact hP.tn
      · exact (FA' 784 (by omega)).trans (hP.me.trans (FP' 331 (by omega)).symm)
      · rw [FA' 784 (by omega), FA' 782 (by omega), FA' 783 (by omega), FP' 332 (by omega), FP' 333 (by omega)]; exact hP.sv
      · rw [FA' 789 (by omega), FA' 790 (by omega), FP' 324 (by omega)]; exact hP.tm
    · refine CI.mk ?_ ?_ ?_ ?_ ?_ ?_ ?_ ?_ ?_ ?_ ?_ ?_ ?_ ?_ ?_ ?_ ?_ ?_ ?_ ?_ ?_ ?_ ?_ ?_ ?_ ?_ ?_ ?_ ?_ ?_ ?_ ?_ ?_ ?_ ?_ ?_
      · exact (FA' 797 (by omega)).trans hI.bg
      · exact (FA' 772 (by omega)).trans hI.una
      · exact (FA' 773 (by omega)).trans hI.at'
      · exact (FA' 774 (by omega)).trans hI.max
      · exact hI.ua
      · exact hI.am
      · exact hI.mL
      · exact (FA' 794 (by omega)).trans hI.hl
      · exact hI.hl1
      · exact (FA' 796 (by omega)).trans hI.bl
      · exact hI.bl1
      · rw [FA' 795 (by omega)]; exact hI.bp
      · exact (FA' 798 (by omega)).trans hI.cl
      · exact hI.cl1
      · exact (FA' 799 (by omega)).trans hI.fn
      · exact hI.fn1
      · exact hI.fnI
      · exact (FA' 778 (by omega)).trans hI.ms
      · exact hI.ms1
      · exact (FA' 779 (by omega)).trans hI.cw
      · exact hI.cw1
      · exact (FA' 780 (by omega)).trans hI.ss
      · exact hI.ss1
      · exact (FA' 781 (by omega)).trans hI.ro
      · exact hI.ro1
      · exact (FA' 775 (by omega)).trans hI.wi
      · exact hI.wi1
      · exact (FA' 789 (by omega)).trans hI.on
      · exact hI.on1
      · rw [FA' 790 (by omega)]; exact hI.tm
      · exact (FA' 785 (by omega)).trans hI.ti
      · exact hI.ti1
      · rw [FA' 787 (by omega), FA' 788 (by omega)]; exact hI.tn
      · exact (FA' 784 (by omega)).trans hI.me
      · exact hI.me1
      · rw [FA' 782 (by omega), FA' 783 (by omega)]; exact hI.sv
    · have s27 := hS.s27
      have s358 := hS.s358
      have s46 := hS.s46
      have u1 := hS.sN1 h1
      refine CS.mk s1 ⟨by show 1 ≤ s'; omega, s4.2⟩ (fun e => absurd (show s' = 1 from e) (by omega)) (fun _ => u1) (fun e => ?_) (fun e => ?_) (fun e => ?_) (fun _ => ⟨l1, l2, fun g1 g2 g3 g4 => ?_⟩) (fun e => ?_)
      · have e' : s' = 2 ∨ s' = 7 := e
        show (v 8) = 0
        by_cases q : tk = 1
        · have := est4 q; apply s27; omega
        · have := kk (by omega); apply s27; omega
      · have e' : s' = 3 ∨ s' = 5 ∨ s' = 8 := e
        show (v 8) = 1 ∧ (v 1) ≤ (v 4) + (v 5) + 1
        by_cases q : tk = 1
        · have := est4 q; apply s358; omega
        · have := kk (by omega); apply s358; omega
      · have e' : s' = 4 ∨ s' = 6 := e
        show (v 8) = 1 ∧ (v 1) = (v 4) + (v 5) + 2
        by_cases q : tk = 1
        · have := est4 q; apply s46; omega
        · have := kk (by omega); apply s46; omega
      · have g1' : s' = 2 := g1
        show nw ≤ la' + 30000
        rcases l3 with y | y
        · rw [y]
          have t0 : tk = 0 := by
            by_cases q : tk = 1
            · have := est4 q; omega
            · omega
          exact hla.2.2 (by have := kk t0; omega) g2 g3 g4
        · omega
      · have e' : s' = 4 ∨ s' = 6 := e
        show mF A1 813 (342 + 4 * k) = nI (if s' = 6 then nw else (v 23)) ∧ (if s' = 6 then nw else (v 23)) ≤ nw ∧ nw ≤ (if s' = 6 then nw else (v 23)) + 60000
        by_cases q : s' = 6
        · rw [if_pos q]
          exact ⟨(hsi q).1, Nat.le_refl _, by omega⟩
        · rw [if_neg q]
          have t0 : tk = 0 := by
            by_cases q : tk = 1
            · have := est4 q; omega
            · omega
          have y := kk t0
          rw [(e24 t0).2.2.1]
          exact hS.si (by omega)
    · refine CR.mk ?_ ?_ ?_ ?_ ?_ ?_ ?_ ?_ ?_ ?_ ?_ ?_ ?_ ?_ ?_ ?_ ?_ ?_ ?_
      · exact (FA' 803 (by omega)).trans (hr.rd.trans (FR' 0 (by omega)).symm)
      · rw [e15, e16]
      · exact (FA' 805 (by omega)).trans (hr.to.trans (FR' 2 (by omega)).symm)
      · exact (FA' 806 (by omega)).trans (hr.lv.trans (FR' 3 (by omega)).symm)
      · exact e17
      · exact e18
      · rw [e20, e21]
      · exact e19
      · exact e20
      · exact e4
      · rw [e15, hrd]
      · exact e3
      · rw [FA' 806 (by omega)]; exact hr.lvN
      · rw [FA' 805 (by omega)]; exact hr.toN
      · rw [hrd]; exact e26.1
      · exact hcst
      · rw [hrd]; exact fun _ => e26.2
      · exact fun _ => e27
      · exact e28
  · have tD : fX16_arrived fu 323 (some (342 + 4 * k)) A = some A := by
      unfold fX16_arrived fX16_takesData
      simp only [gI_ok hA, ob_some, rN0, rN1]
      rw [if_neg (fun e => hst (Or.inl (st2.mp e))), if_neg (fun e => hst (Or.inr (Or.inl (st3.mp e)))), if_neg (fun e => hst (Or.inr (Or.inr (st4.mp e)))), b2_some, if_pos rfl]
    have tX : fX9_takeData fu 317 (some c) M = if (mF A 768 (342 + 4 * k)) = (6 : Int32) then (if ((mF A 1060 323) &&& 1) = 0 then some M else some (sF (sF M 64 c 6) 72 c (nI nw + 60000))) else some M := by
      unfold fX9_takeData fX1_linger
      simp only [gI_ok c1, ob_some, ← hE.st]
      rw [if_neg (fun e => hst (Or.inl (st2.mp e))), if_neg (fun e => hst (Or.inr (Or.inl (st3.mp e)))), if_neg (fun e => hst (Or.inr (Or.inr (st4.mp e)))), gR_ok o317, ob_some, xw_g579_317 hW, rc_ok o3, ob_some, x_hasA fu hW hG 1 (by decide), b2_some, if01, gR_ok o317, ob_some, xw_g576_317 hW, gI_ok (xw_ok304 hW), ob_some, h.wnow, rc_ok c1, ob_some, pF_ok c1, ob_some, pF_ok (by rw [ok_sF]; exact c1), ob_some, ob_some]
    by_cases q6 : (v 0) = 6
    · by_cases qf : ((mF A 1060 323) &&& 1) = 0
      · refine ⟨A, M, hd, ft, v, fun K => ?_, by rw [tX, if_pos (st6.mpr q6), if_pos qf], h, FB.rf, FM.rf, h1⟩
        rw [tD, ob_some, gI_ok hA, ob_some, if_pos (st6.mpr q6), rc_ok o323, ob_some, m_is fu hR, b2_some, if01, if_pos qf]
      · have e64 : sF M 64 c 6 = M := sF_id (hE.st.symm.trans (st6.mpr q6))
        rw [if_pos (st6.mpr q6), if_neg qf, e64] at tX
        have FA' : ∀ g, ¬ g = 813 → mF (sF A 813 (342 + 4 * k) (nI nw)) g (342 + 4 * k) = mF A g (342 + 4 * k) := fun g hg => by rw [mF_sF, if_neg (fun e => hg e.1)]
        have FC' : ∀ g, ¬ g = 72 → mF (sF M 72 c (nI nw + 60000)) g c = mF M g c := fun g hg => by rw [mF_sF, if_neg (fun e => hg e.1)]
        have FR' : ∀ g, ¬ 100000 ≤ g → mF (sF M 72 c (nI nw + 60000)) g (c + 2) = mF M g (c + 2) := fun g _ => by rw [mF_sF, if_neg (by omega)]
        have FP' : ∀ g, ¬ 100000 ≤ g → mF (sF M 72 c (nI nw + 60000)) g (c + 5) = mF M g (c + 5) := fun g _ => by rw [mF_sF, if_neg (by omega)]
        have hdA : mA (sF A 813 (342 + 4 * k) (nI nw)) (343 + 4 * k) = mA A (343 + 4 * k) := rfl
        have hdM : mA (sF M 72 c (nI nw + 60000)) (c + 1) = mA M (c + 1) := rfl
        obtain ⟨z1, z2, z3⟩ := TB_upd (k := k) (A' := sF A 813 (342 + 4 * k) (nI nw)) (M' := sF M 72 c (nI nw + 60000)) (u := 0) h.tb h.t1000 rfl rfl rfl rfl (fun f a hh => by rw [mF_sF, if_neg (by omega)]) rfl rfl rfl rfl (fun f a g1 _ _ => by rw [mF_sF, if_neg (fun e => g1 e.2)])
        refine ⟨_, _, hd, ft, uv v 23 nw, fun K => ?_, tX, z1.tk ?_ ?_ ?_ ?_ ?_, z2, z3, h1⟩
        · rw [tD, ob_some, gI_ok hA, ob_some, if_pos (st6.mpr q6), rc_ok o323, ob_some, m_is fu hR, b2_some, if01, if_neg qf, gI_ok o323, ob_some, h.nw, pF_ok hA, ob_some]
        · refine CE.mk ?_ ?_ ?_ ?_ ?_ ?_ ?_ ?_ ?_ ?_ ?_ ?_ ?_ ?_ ?_ ?_ ?_ ?_
          · exact (FA' 768 (by omega)).trans (hE.st.trans (FC' 64 (by omega)).symm)
          · exact (FA' 769 (by omega)).trans (hE.ip.trans (FC' 65 (by omega)).symm)
          · exact (FA' 770 (by omega)).trans (hE.po.trans (FC' 66 (by omega)).symm)
          · exact (FA' 771 (by omega)).trans (hE.is.trans (FC' 67 (by omega)).symm)
          · exact (FA' 772 (by omega)).trans (hE.una.trans (FC' 68 (by omega)).symm)
          · exact (FA' 773 (by omega)).trans (hE.at'.trans (FC' 69 (by omega)).symm)
          · exact (FA' 774 (by omega)).trans (hE.max.trans (FC' 70 (by omega)).symm)
          · exact (FA' 775 (by omega)).trans (hE.wi.trans (FC' 71 (by omega)).symm)
          · exact (FA' 776 (by omega)).trans (hE.w1.trans (FC' 82 (by omega)).symm)
          · exact (FA' 777 (by omega)).trans (hE.w2.trans (FC' 83 (by omega)).symm)
          · exact (FA' 794 (by omega)).trans (hE.hl.trans (FC' 78 (by omega)).symm)
          · exact (FA' 796 (by omega)).trans (hE.bl.trans (FC' 76 (by omega)).symm)
          · rw [FA' 796 (by omega), FA' 795 (by omega), FC' 75 (by omega)]; exact hE.bp
          · exact (FA' 797 (by omega)).trans (hE.bg.trans (FC' 77 (by omega)).symm)
          · exact (FA' 798 (by omega)).trans (hE.cl.trans (FC' 74 (by omega)).symm)
          · rw [FA' 768 (by omega), FA' 812 (by omega), FC' 73 (by omega)]; exact hE.la
          · exact fun _ => by rw [mF_sF, if_pos ⟨rfl, rfl⟩, mF_sF, if_pos ⟨rfl, rfl⟩]
          · rw [FA' 794 (by omega), hdA, hdM]; exact hE.hd
        · refine CP.mk ?_ ?_ ?_ ?_ ?_ ?_ ?_ ?_ ?_ ?_ ?_ ?_
          · exact (FA' 778 (by omega)).trans (hP.ms.trans (FP' 320 (by omega)).symm)
          · exact (FA' 779 (by omega)).trans (hP.cw.trans (FP' 321 (by omega)).symm)
          · exact (FA' 780 (by omega)).trans (hP.ss.trans (FP' 322 (by omega)).symm)
          · exact (FA' 781 (by omega)).trans (hP.ro.trans (FP' 323 (by omega)).symm)
          · exact (FA' 791 (by omega)).trans (hP.tr.trans (FP' 325 (by omega)).symm)
          · exact (FA' 792 (by omega)).trans (hP.du.trans (FP' 326 (by omega)).symm)
          · exact (FA' 786 (by omega)).trans (hP.re.trans (FP' 327 (by omega)).symm)
          · exact (FA' 785 (by omega)).trans (hP.ti.trans (FP' 328 (by omega)).symm)
          · rw [FA' 785 (by omega), FA' 787 (by omega), FA' 788 (by omega), FP' 329 (by omega), FP' 330 (by omega)]; exact hP.tn
          · exact (FA' 784 (by omega)).trans (hP.me.trans (FP' 331 (by omega)).symm)
          · rw [FA' 784 (by omega), FA' 782 (by omega), FA' 783 (by omega), FP' 332 (by omega), FP' 333 (by omega)]; exact hP.sv
          · rw [FA' 789 (by omega), FA' 790 (by omega), FP' 324 (by omega)]; exact hP.tm
        · refine CI.mk ?_ ?_ ?_ ?_ ?_ ?_ ?_ ?_ ?_ ?_ ?_ ?_ ?_ ?_ ?_ ?_ ?_ ?_ ?_ ?_ ?_ ?_ ?_ ?_ ?_ ?_ ?_ ?_ ?_ ?_ ?_ ?_ ?_ ?_ ?_ ?_
          · exact (FA' 797 (by omega)).trans hI.bg
          · exact (FA' 772 (by omega)).trans hI.una
          · exact (FA' 773 (by omega)).trans hI.at'
          · exact (FA' 774 (by omega)).trans hI.max
          · exact hI.ua
          · exact hI.am
          · exact hI.mL
          · exact (FA' 794 (by omega)).trans hI.hl
          · exact hI.hl1
          · exact (FA' 796 (by omega)).trans hI.bl
          · exact hI.bl1
          · rw [FA' 795 (by omega)]; exact hI.bp
          · exact (FA' 798 (by omega)).trans hI.cl
          · exact hI.cl1
          · exact (FA' 799 (by omega)).trans hI.fn
          · exact hI.fn1
          · exact hI.fnI
          · exact (FA' 778 (by omega)).trans hI.ms
          · exact hI.ms1
          · exact (FA' 779 (by omega)).trans hI.cw
          · exact hI.cw1
          · exact (FA' 780 (by omega)).trans hI.ss
          · exact hI.ss1
          · exact (FA' 781 (by omega)).trans hI.ro
          · exact hI.ro1
          · exact (FA' 775 (by omega)).trans hI.wi
          · exact hI.wi1
          · exact (FA' 789 (by omega)).trans hI.on
          · exact hI.on1
          · rw [FA' 790 (by omega)]; exact hI.tm
          · exact (FA' 785 (by omega)).trans hI.ti
          · exact hI.ti1
          · rw [FA' 787 (by omega), FA' 788 (by omega)]; exact hI.tn
          · exact (FA' 784 (by omega)).trans hI.me
          · exact hI.me1
          · rw [FA' 782 (by omega), FA' 783 (by omega)]; exact hI.sv
        · refine CS.mk ?_ ?_ ?_ ?_ ?_ ?_ ?_ ?_ ?_
          · exact (FA' 768 (by omega)).trans hS.st
          · exact hS.st1
          · rw [FA' 771 (by omega), FA' 786 (by omega)]; exact hS.s1
          · exact hS.sN1
          · exact hS.s27
          · exact hS.s358
          · exact hS.s46
          · rw [FA' 812 (by omega)]; exact hS.la
          · exact fun _ => ⟨by rw [mF_sF, if_pos ⟨rfl, rfl⟩]; rfl, Nat.le_refl _, by show nw ≤ nw + 60000; omega⟩
        · exact CR_congr (A := A) (M := M) (fun g hg => FA' g (by omega)) rfl rfl (fun g hg => FR' g (by omega)) rfl rfl hr
    · refine ⟨A, M, hd, ft, v, fun K => ?_, by rw [tX, if_neg (fun e => q6 (st6.mp e))], h, FB.rf, FM.rf, h1⟩
      rw [tD, ob_some, gI_ok hA, ob_some, if_neg (fun e => q6 (st6.mp e))]
end Data4
