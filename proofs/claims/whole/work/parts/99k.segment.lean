/-! ===== part 99k: a segment of a connection, in both ===== -/
section Segment
variable {A M A' M' : Mm}
/-- what the class does with a segment of a connection -/
def tkF (fu : Nat) (v3 : Option Nat) (M2 : Mm) : Option (Option Nat × Mm) :=
    (gR M2 1 80 v3).bind fun v4 =>
    (gR M2 9 579 (some 317)).bind fun v5 =>
    (rc M2 0 v4).bind fun q6 =>
    b2 (fX0_accepts fu q6 v5 M2) fun v8 M7 =>
    if v8 = 0 then (
    (rc M7 9 (some 317)).bind fun q34 =>
    (fX9_refuse fu q34 v3 M7).bind fun M35 =>
    some (none, M35))
    else (
    (gR M7 9 579 (some 317)).bind fun v9 =>
    (rc M7 3 v9).bind fun q10 =>
    b2 (fX3_has fu q10 (4 : Int32) M7) fun v12 M11 =>
    if v12 = 0 then (
    (gR M11 9 579 (some 317)).bind fun v13 =>
    (rc M11 3 v13).bind fun q14 =>
    b2 (fX3_has fu q14 (2 : Int32) M11) fun v16 M15 =>
    if v16 = 0 then (
    (gR M15 9 579 (some 317)).bind fun v17 =>
    (rc M15 3 v17).bind fun q18 =>
    b2 (fX3_has fu q18 (16 : Int32) M15) fun v20 M19 =>
    if v20 = 0 then (
    some (none, M19))
    else (
    (gI M19 1 64 v3).bind fun v21 =>
    if v21 = (1 : Int32) then (
    (rc M19 9 (some 317)).bind fun q25 =>
    b2 (fX9_isOpened fu q25 v3 M19) fun v27 M26 =>
    if v27 = 0 then (
    some (none, M26))
    else (
    fX9_take_L117 fu 317 v3 M26))
    else (
    (rc M19 9 (some 317)).bind fun q22 =>
    b2 (fX9_isAcknowledged fu q22 v3 M19) fun v24 M23 =>
    if v24 = 0 then (
    some (none, M23))
    else (
    fX9_take_L117 fu 317 v3 M23))))
    else (
    (rc M15 9 (some 317)).bind fun q28 =>
    (fX9_reset fu q28  M15).bind fun M29 =>
    (rc M29 1 v3).bind fun q30 =>
    (fX1_leave fu q30  M29).bind fun M31 =>
    some (none, M31)))
    else (
    (rc M11 1 v3).bind fun q32 =>
    (fX1_leave fu q32  M11).bind fun M33 =>
    some (none, M33)))
/-- and behind it -/
def SGo (fu c : Nat) (o : Option Nat) (M1 M' : Mm) : Prop := (o = none ∧ M' = M1) ∨ (o = some c ∧ XW M1 ∧ ∃ M2, fX7_lookAt fu 319 (some c) M1 = some M2 ∧ XW M2 ∧ fX9_sendAllDue fu 317 (some c) M2 = some M')
/-- a connection, living or gone -/
def TL (A M : Mm) (KN KS t T im ig k c nw : Nat) : Prop := (∃ hd ft b0 v, TK A M KN KS t T im ig k c nw hd ft b0 v) ∨ TD A M KN KS t T im ig k c nw
theorem TD_mono {KN KS t u T k c nw im ig : Nat} (hu : t + u ≤ 1000) (h : TD A M KN KS t T im ig k c nw) : TD A M KN KS (t + u) T im ig k c nw := TD.mk (JL0_mono hu h.jl) h.ba h.bm h.jn h.ji h.cn h.sa h.sx h.nw h.n2
theorem TK_linger {KN KS t T k c nw im ig hd ft : Nat} {b0 : Int32} {v : Nat → Nat} (h : TK A M KN KS t T im ig k c nw hd ft b0 v) (q6 : (v 0) = 6) : TK (sF A 813 (342 + 4 * k) (nI nw)) (sF M 72 c (nI nw + 60000)) KN KS t T im ig k c nw hd ft b0 (uv v 23 nw) ∧ FCA k A (sF A 813 (342 + 4 * k) (nI nw)) ∧ FCM c M (sF M 72 c (nI nw + 60000)) := by
  have hE := h.ce
  have hP := h.cp
  have hI := h.ci
  have hS := h.cs
  have hr := h.cr
  have FA' : ∀ g, ¬ g = 813 → mF (sF A 813 (342 + 4 * k) (nI nw)) g (342 + 4 * k) = mF A g (342 + 4 * k) := fun g hg => by rw [mF_sF, if_neg (fun e => hg e.1)]
  have FC' : ∀ g, ¬ g = 72 → mF (sF M 72 c (nI nw + 60000)) g c = mF M g c := fun g hg => by rw [mF_sF, if_neg (fun e => hg e.1)]
  have FR' : ∀ g, ¬ 100000 ≤ g → mF (sF M 72 c (nI nw + 60000)) g (c + 2) = mF M g (c + 2) := fun g _ => by rw [mF_sF, if_neg (by omega)]
  have FP' : ∀ g, ¬ 100000 ≤ g → mF (sF M 72 c (nI nw + 60000)) g (c + 5) = mF M g (c + 5) := fun g _ => by rw [mF_sF, if_neg (by omega)]
  have hdA : mA (sF A 813 (342 + 4 * k) (nI nw)) (343 + 4 * k) = mA A (343 + 4 * k) := rfl
  have hdM : mA (sF M 72 c (nI nw + 60000)) (c + 1) = mA M (c + 1) := rfl
  obtain ⟨z1, z2, z3⟩ := TB_upd (k := k) (A' := sF A 813 (342 + 4 * k) (nI nw)) (M' := sF M 72 c (nI nw + 60000)) (u := 0) h.tb h.t1000 rfl rfl rfl rfl (fun f a hh => by rw [mF_sF, if_neg (by omega)]) rfl rfl rfl rfl (fun f a g1 _ _ => by rw [mF_sF, if_neg (fun e => g1 e.2)])
  refine ⟨z1.tk ?_ ?_ ?_ ?_ ?_, z2, z3⟩
  · refine CE.mk ?_ ?_ ?_ ?_ ?_ ?_ ?_ ?_ ?_ ?_ ?_ ?_ ?_ ?_ ?_ ?_ ?_ ?_
    · exact (FA' 768 (by omega)).trans (hE.st.trans (FC' 64 (by omega)).symm)
    · exact (FA' 769 (by omega)).trans (hE.ip.trans (FC' 65 (by omega)).symm)
    · exact (FA' 770 (by omega)).trans (hE.po.trans (FC' 66 (by omega)).symm)
    · exact (FA' 771 (by omega)).trans (hE.is.trans (FC' 67 (by omega)).symm)
    · exact (FA' 772 (by omega)).trans (hE.una.trans (FC' 68 (by omega)).symm)
    · exact (FA' 773 (by omega)).trans (hE.at'.trans (FC' 69 (by omega)).symm)
    · exact (FA' 774 (by omega)).trans (hE.max.trans (FC' 70 (by omega)).symm)
    · exact (FA' 775 (by omega)).trans (hE.wi.trans (FC' 71 (by omega)).symm)
    · exact (FA' 776 (by omega)).trans (hE.w1.trans (FC' 82 (by omega)).symm)
    · exact (FA' 777 (by omega)).trans (hE.w2.trans (FC' 83 (by omega)).symm)
    · exact (FA' 794 (by omega)).trans (hE.hl.trans (FC' 78 (by omega)).symm)
    · exact (FA' 796 (by omega)).trans (hE.bl.trans (FC' 76 (by omega)).symm)
    · rw [FA' 796 (by omega), FA' 795 (by omega), FC' 75 (by omega)]; exact hE.bp
    · exact (FA' 797 (by omega)).trans (hE.bg.trans (FC' 77 (by omega)).symm)
    · exact (FA' 798 (by omega)).trans (hE.cl.trans (FC' 74 (by omega)).symm)
    · rw [FA' 768 (by omega), FA' 812 (by omega), FC' 73 (by omega)]; exact hE.la
    · exact fun _ => by rw [mF_sF, if_pos ⟨rfl, rfl⟩, mF_sF, if_pos ⟨rfl, rfl⟩]
    · rw [FA' 794 (by omega), hdA, hdM]; exact hE.hd
  · refine CP.mk ?_ ?_ ?_ ?_ ?_ ?_ ?_ ?_ ?_ ?_ ?_ ?_
    · exact (FA' 778 (by omega)).trans (hP.ms.trans (FP' 320 (by omega)).symm)
    · exact (FA' 779 (by omega)).trans (hP.cw.trans (FP' 321 (by omega)).symm)
    · exact (FA' 780 (by omega)).trans (hP.ss.trans (FP' 322 (by omega)).symm)
    · exact (FA' 781 (by omega)).trans (hP.ro.trans (FP' 323 (by omega)).symm)
    · exact (FA' 791 (by omega)).trans (hP.tr.trans (FP' 325 (by omega)).symm)
    · exact (FA' 792 (by omega)).trans (hP.du.trans (FP' 326 (by omega)).symm)
    · exact (FA' 786 (by omega)).trans (hP.re.trans (FP' 327 (by omega)).symm)
    · exact (FA' 785 (by omega)).trans (hP.ti.trans (FP' 328 (by omega)).symm)
    · rw [FA' 785 (by omega), FA' 787 (by omega), FA' 788 (by omega), FP' 329 (by omega), FP' 330 (by omega)]; exact hP.tn
    · exact (FA' 784 (by omega)).trans (hP.me.trans (FP' 331 (by omega)).symm)
    · rw [FA' 784 (by omega), FA' 782 (by omega), FA' 783 (by omega), FP' 332 (by omega), FP' 333 (by omega)]; exact hP.sv
    · rw [FA' 789 (by omega), FA' 790 (by omega), FP' 324 (by omega)]; exact hP.tm
  · refine CI.mk ?_ ?_ ?_ ?_ ?_ ?_ ?_ ?_ ?_ ?_ ?_ ?_ ?_ ?_ ?_ ?_ ?_ ?_ ?_ ?_ ?_ ?_ ?_ ?_ ?_ ?_ ?_ ?_ ?_ ?_ ?_ ?_ ?_ ?_ ?_ ?_
    · exact (FA' 797 (by omega)).trans hI.bg
    · exact (FA' 772 (by omega)).trans hI.una
    · exact (FA' 773 (by omega)).trans hI.at'
    · exact (FA' 774 (by omega)).trans hI.max
    · exact hI.ua
    · exact hI.am
    · exact hI.mL
    · exact (FA' 794 (by omega)).trans hI.hl
    · exact hI.hl1
    · exact (FA' 796 (by omega)).trans hI.bl
    · exact hI.bl1
    · rw [FA' 795 (by omega)]; exact hI.bp
    · exact (FA' 798 (by omega)).trans hI.cl
    · exact hI.cl1
    · exact (FA' 799 (by omega)).trans hI.fn
    · exact hI.fn1
    · exact hI.fnI
    · exact (FA' 778 (by omega)).trans hI.ms
    · exact hI.ms1
    · exact (FA' 779 (by omega)).trans hI.cw
    · exact hI.cw1
    · exact (FA' 780 (by omega)).trans hI.ss
    · exact hI.ss1
    · exact (FA' 781 (by omega)).trans hI.ro
    · exact hI.ro1
    · exact (FA' 775 (by omega)).trans hI.wi
    · exact hI.wi1
    · exact (FA' 789 (by omega)).trans hI.on
    · exact hI.on1
    · rw [FA' 790 (by omega)]; exact hI.tm
    · exact (FA' 785 (by omega)).trans hI.ti
    · exact hI.ti1
    · rw [FA' 787 (by omega), FA' 788 (by omega)]; exact hI.tn
    · exact (FA' 784 (by omega)).trans hI.me
    · exact hI.me1
    · rw [FA' 782 (by omega), FA' 783 (by omega)]; exact hI.sv
  · refine CS.mk ?_ ?_ ?_ ?_ ?_ ?_ ?_ ?_ ?_
    · exact (FA' 768 (by omega)).trans hS.st
    · exact hS.st1
    · rw [FA' 771 (by omega), FA' 786 (by omega)]; exact hS.s1
    · exact hS.sN1
    · exact hS.s27
    · exact hS.s358
    · exact hS.s46
    · rw [FA' 812 (by omega)]; exact hS.la
    · exact fun _ => ⟨by rw [mF_sF, if_pos ⟨rfl, rfl⟩]; rfl, Nat.le_refl _, by show nw ≤ nw + 60000; omega⟩
  · exact CR_congr (A := A) (M := M) (fun g hg => FA' g (by omega)) rfl rfl (fun g hg => FR' g (by omega)) rfl rfl hr
theorem lfN_le {k nw t im : Nat} {b0 : Int32} {v : Nat → Nat} (hI : CI A k nw t im b0 v) : lfN v ≤ 65793 := by
  have := hI.hl1
  have := hI.bl1
  have := hI.cl1
  unfold lfN
  omega
/-- all that is due goes out, in both -/
theorem sp_due (fu : Nat) (hfu : 100000 ≤ fu) {KN KS t T k c nw im ig hd ft : Nat} {b0 : Int32} {v : Nat → Nat} (h : TK A M KN KS t T im ig k c nw hd ft b0 v) (hk : k < 16) (hT : T + 140000 < 2 ^ 30) :
    ∃ A' M' T' v', ((fX16_sendAll fu 323 (some (342 + 4 * k)) A).bind fun M4 => (gI M4 12 807 (some (342 + 4 * k))).bind fun v5 => if v5 = 0 then some M4 else ((rc M4 16 (some 323)).bind fun q6 => (fX16_acknowledge fu q6 (some (342 + 4 * k)) M4).bind fun M7 => some M7)) = some A' ∧ fX9_sendAllDue fu 317 (some c) M = some M' ∧ T ≤ T' ∧ T' ≤ T + 65794 ∧ TK A' M' KN KS t T' im ig k c nw hd ft b0 v' ∧ FCA k A A' ∧ FCM c M M' := by
  obtain ⟨A1, M1, T1, v1, s1, s2, s3, s4, s5, s6, s7, -⟩ := sp_sendAll fu hfu h hk (by omega)
  have hl := lfN_le h.ci
  have hR1 := s5.rw'
  have hC1 := s5.cn
  have c7 : okA M1 0 (c + 2) := hC1.2.2.2.2.2.2.1
  unfold fX9_sendAllDue
  rw [s1, ob_some, gI_ok (rw_cnO hR1 k hk), ob_some, rc_ok (xw_ok317 h.xw), ob_some, s2, ob_some, gR_ok hC1.1, ob_some, hC1.2.2.1, gI_ok c7, ob_some, ← s5.cr.ow]
  by_cases q : (mF A1 807 (342 + 4 * k)) = 0
  · rw [if_pos q, if_pos q]
    exact ⟨A1, M1, T1, v1, rfl, rfl, s3, by omega, s5, s6, s7⟩
  · rw [if_neg q, if_neg q]
    obtain ⟨A2, M2, T2, r1, r2, r3, r4, r5, r6, r7, -⟩ := sp_ackn fu (by omega) s5 hk (by omega)
    rw [rc_ok (rw_ok323 hR1), ob_some, r1, ob_some, gI_ok hC1.1, ob_some, rc_ok (xw_ok317 s5.xw), ob_some, r2, ob_some]
    exact ⟨A2, M2, T2, v1, rfl, rfl, by omega, by omega, r5, s6.tr r6, s7.tr r7⟩
theorem sp_segment (fu : Nat) (hfu : 100000 ≤ fu) {KN KS t T k c nw im ig hd ft bd da dx dl w F ek : Nat} {b0 : Int32} {v : Nat → Nat} (h : TK A M KN KS t T im ig k c nw hd ft b0 v) (hk : k < 16) (hG : SG A M bd da dx dl w) (hf : FI F ek im A M) (hT : T + 200000 < 2 ^ 30) (ht : t ≤ 600) :
    ∃ A' M' T' o M1, fX16_segment fu 323 (some (342 + 4 * k)) A = some A' ∧ tkF fu (some c) M = some (o, M1) ∧ SGo fu c o M1 M' ∧ T ≤ T' ∧ T' ≤ T + 70000 ∧ FWA k A A' ∧ FWM c M M' ∧ TL A' M' KN KS (t + 1) T' im ig k c nw := by
  have hR := h.rw'
  have hW := h.xw
  have hC := h.cn
  have c1 := hC.1
  have c7 : okA M 0 (c + 2) := hC.2.2.2.2.2.2.1
  have o323 := rw_ok323 hR
  have o3 := xw_ok314 hW
  have o317 := xw_ok317 hW
  have hS := h.cs
  have f4 : fX3_has fu 314 4 M = _ := x_hasA fu hW hG 4 (by decide)
  have f2 : fX3_has fu 314 2 M = _ := x_hasA fu hW hG 2 (by decide)
  have f16 : fX3_has fu 314 16 M = _ := x_hasA fu hW hG 16 (by decide)
  obtain ⟨b, b1, b2'⟩ := sp_accept fu h hk hG
  unfold fX16_segment tkF
  rw [rc_ok o323, ob_some, b1, b2_some, gR_ok c1, ob_some, hC.2.2.1, gR_ok o317, ob_some, xw_g579_317 hW, rc_ok c7, ob_some, b2', b2_some]
  by_cases q : b = 0
  · rw [if_pos q, if_pos q, rc_ok o323, ob_some, m_is fu hR, b2_some, if01, rc_ok o317, ob_some]
    unfold fX9_refuse
    rw [gR_ok o317, ob_some, xw_g579_317 hW, rc_ok o3, ob_some, f4, b2_some, if01]
    by_cases q4 : ((mF A 1060 323) &&& 4) = 0
    · rw [if_pos q4, if_pos q4, rc_ok o323, ob_some, gI_ok c1, ob_some, rc_ok o317, ob_some]
      obtain ⟨A1, M1, T1, r1, r2, r3, r4, r5, r6, r7, r8⟩ := sp_ackn fu (by omega) h hk (by omega)
      have hR1 := r5.rw'
      have hW1 := r5.xw
      have hC1 := r5.cn
      have hA1 := rw_cnO hR1 k hk
      have hG1 := SG_fr hW hC r6 r7 hG
      have s6 : (nI (v 0) = (6 : Int32)) ↔ (v 0) = 6 := st_eq hS.st1.2 (n := 6) (by decide)
      rw [r1, ob_some, r2, ob_some, gI_ok hA1, ob_some, gI_ok hC1.1, ob_some, ← r5.ce.st, r5.cs.st]
      by_cases q6 : (v 0) = 6
      · rw [if_pos (s6.mpr q6), if_pos (s6.mpr q6), rc_ok (rw_ok323 hR1), ob_some, m_is fu hR1, b2_some, if01, gR_ok (xw_ok317 hW1), ob_some, xw_g579_317 hW1, rc_ok (xw_ok314 hW1), ob_some, x_hasA fu hW1 hG1 1 (by decide), b2_some, if01]
        by_cases q1 : ((mF A1 1060 323) &&& 1) = 0
        · rw [if_pos q1, if_pos q1, ob_some]
          exact ⟨A1, M1, T1, none, M1, rfl, rfl, Or.inl ⟨rfl, rfl⟩, r3, by omega, r6.wa, r7.wm, Or.inl ⟨_, _, _, _, TK_mono (by omega) r5⟩⟩
        · obtain ⟨z1, z2, z3⟩ := TK_linger r5 q6
          have e64 : sF M1 64 c 6 = M1 := sF_id (by rw [← r5.ce.st, r5.cs.st, q6]; rfl)
          unfold fX1_linger
          rw [if_neg q1, if_neg q1, gI_ok (rw_ok323 hR1), ob_some, r5.nw, pF_ok hA1, ob_some, gR_ok (xw_ok317 hW1), ob_some, xw_g576_317 hW1, gI_ok (xw_ok304 hW1), ob_some, r5.wnow, rc_ok hC1.1, ob_some, pF_ok hC1.1, ob_some, e64, pF_ok hC1.1, ob_some, ob_some, ob_some]
          exact ⟨_, _, T1, none, _, rfl, rfl, Or.inl ⟨rfl, rfl⟩, r3, by omega, (r6.tr z2).wa, (r7.tr z3).wm, Or.inl ⟨_, _, _, _, TK_mono (by omega) z1⟩⟩
      · rw [if_neg (fun z => q6 (s6.mp z)), if_neg (fun z => q6 (s6.mp z)), ob_some]
        exact ⟨A1, M1, T1, none, M1, rfl, rfl, Or.inl ⟨rfl, rfl⟩, r3, by omega, r6.wa, r7.wm, Or.inl ⟨_, _, _, _, TK_mono (by omega) r5⟩⟩
    · rw [if_neg q4, if_neg q4, ob_some]
      exact ⟨A, M, T, none, M, rfl, rfl, Or.inl ⟨rfl, rfl⟩, Nat.le_refl _, by omega, FWA.rf, FWM.rf, Or.inl ⟨_, _, _, _, TK_mono (by omega) h⟩⟩
  · rw [if_neg q, if_neg q, rc_ok o323, ob_some, m_is fu hR, b2_some, if01, gR_ok o317, ob_some, xw_g579_317 hW, rc_ok o3, ob_some, f4, b2_some, if01]
    by_cases q4 : ((mF A 1060 323) &&& 4) = 0
    · rw [if_pos q4, if_pos q4, rc_ok o323, ob_some, m_is fu hR, b2_some, if01, gR_ok o317, ob_some, xw_g579_317 hW, rc_ok o3, ob_some, f2, b2_some, if01]
      by_cases q2 : ((mF A 1060 323) &&& 2) = 0
      · rw [if_pos q2, if_pos q2, rc_ok o323, ob_some, m_is fu hR, b2_some, if01, gR_ok o317, ob_some, xw_g579_317 hW, rc_ok o3, ob_some, f16, b2_some, if01]
        by_cases q16 : ((mF A 1060 323) &&& 16) = 0
        · rw [if_pos q16, if_pos q16]
          exact ⟨A, M, T, none, M, rfl, rfl, Or.inl ⟨rfl, rfl⟩, Nat.le_refl _, by omega, FWA.rf, FWM.rf, Or.inl ⟨_, _, _, _, TK_mono (by omega) h⟩⟩
        · rw [if_neg q16, if_neg q16, rc_ok o323, ob_some, gI_ok c1, ob_some]
          obtain ⟨A1, M1, T1, b3, a1, a2, a3, a4, a5⟩ := sp_ack fu (by omega) h hk hG (by omega) ht
          have cls : (if (mF M 64 c) = (1 : Int32) then (rc M 9 (some 317)).bind (fun q25 => b2 (fX9_isOpened fu q25 (some c) M) fun v27 M26 => if v27 = 0 then some (none, M26) else fX9_take_L117 fu 317 (some c) M26) else (rc M 9 (some 317)).bind (fun q22 => b2 (fX9_isAcknowledged fu q22 (some c) M) fun v24 M23 => if v24 = 0 then some (none, M23) else fX9_take_L117 fu 317 (some c) M23)) = (if b3 = 0 then some (none, M1) else fX9_take_L117 fu 317 (some c) M1) := by
            by_cases y : (mF M 64 c) = (1 : Int32)
            · rw [if_pos y] at a2 ⊢
              rw [rc_ok o317, ob_some, a2, b2_some]
            · rw [if_neg y] at a2 ⊢
              rw [rc_ok o317, ob_some, a2, b2_some]
          rw [a1, b2_some]
          obtain ⟨f1, f1', (⟨e1, hd1, ft1, b01, v1, tk1, n1⟩ | ⟨e1, e2⟩)⟩ := a5
          · rw [e1] at cls
            rw [e1, if_neg (by decide)]
            rw [if_neg (show ¬ (1 : Int32) = 0 by decide)] at cls
            have hR1 := tk1.rw'
            have hG1 := SG_fr hW hC f1 f1' hG
            obtain ⟨A2, M2, hd2, ft2, v2, d1, d2, tk2, d4, d5, d6⟩ := sp_data fu (by omega) tk1 hk hG1 n1
            have fw2 : FWA k A A2 := (f1.tr d4).wa
            have fx2 : FWM c M M2 := (f1'.tr d5).wm
            obtain ⟨A3, M3, hd3, b03, v3, g1, g2, tk3, g4, g5⟩ := sp_requests fu (by omega) tk2 hk (FI_w hf hC hW hk fw2 fx2)
            obtain ⟨A4, M4, T4, v4, i1, i2, i3, i4, tk4, i6, i7⟩ := sp_due fu hfu tk3 hk (by omega)
            refine ⟨A4, M4, T4, some c, M2, ?_, ?_, Or.inr ⟨rfl, tk2.xw, M3, g2, tk3.xw, i2⟩, by omega, by omega, (fw2.tr g4).tr i6.wa, (fx2.tr g5).tr i7.wm, Or.inl ⟨_, _, _, _, tk4⟩⟩
            · rw [rc_ok (rw_ok323 hR1), ob_some]
              refine (d1 (fun X => fX16_segment_L128 fu 323 (some (342 + 4 * k)) X)).trans ?_
              unfold fX16_segment_L128
              rw [rc_ok (rw_ok323 tk2.rw'), ob_some, g1, ob_some, rc_ok (rw_ok323 tk3.rw'), ob_some]
              exact i1
            · refine Eq.trans ?_ (cls.trans ?_)
              · rfl
              · unfold fX9_take_L117
                rw [rc_ok (xw_ok317 tk1.xw), ob_some, d2, ob_some]
          · rw [e1, if_pos rfl] at cls
            rw [e1, if_pos rfl]
            refine ⟨A1, M1, T1, none, M1, rfl, ?_, Or.inl ⟨rfl, rfl⟩, by omega, by omega, f1.wa, f1'.wm, e2⟩
            refine Eq.trans ?_ cls
            rfl
      · rw [if_neg q2, if_neg q2, rc_ok o323, ob_some, rc_ok o317, ob_some]
        obtain ⟨A1, M1, T1, r1, r2, r3, r4, r5, r6, r7, r8, r9, r10⟩ := sp_reset fu (by omega) h.jl h.ba h.bm h.jn hG (by omega)
        have tk1 := TK_link hk h r5 r6 r7 r8 r9 r10
        obtain ⟨A2, M2, s1, s2, td, s4, s5⟩ := sp_gone fu tk1 hk
        rw [r1, ob_some, r2, ob_some, rc_ok (rw_ok323 tk1.rw'), ob_some, s1, ob_some, rc_ok tk1.cn.1, ob_some, s2, ob_some]
        exact ⟨A2, M2, T1, none, M2, rfl, rfl, Or.inl ⟨rfl, rfl⟩, by omega, by omega, (r9.ca.tr s4).wa, (r10.cm.tr s5).wm, Or.inr (TD_mono (by omega) td)⟩
    · rw [if_neg q4, if_neg q4, rc_ok o323, ob_some, rc_ok c1, ob_some]
      obtain ⟨A2, M2, s1, s2, td, s4, s5⟩ := sp_gone fu h hk
      rw [s1, ob_some, s2, ob_some]
      exact ⟨A2, M2, T, none, M2, rfl, rfl, Or.inl ⟨rfl, rfl⟩, by omega, by omega, s4.wa, s5.wm, Or.inr (TD_mono (by omega) td)⟩
end Segment
