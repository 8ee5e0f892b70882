/-! ===== part 9j: time goes on ===== -/
section Time
variable {A M : Mm} {KN KS t T im ig F ek ty nw : Nat}
theorem JJ_time {x : Nat} (h : JJ A M KN KS t T im ig F ek ty nw) (h1 : nw ≤ x) (h2 : x ≤ 2000000000) (hp : ∀ k, k < 8 → x ≤ pD A k) (hd : ∀ k, k < 4 → x ≤ dD A k) (hc : ∀ k, k < 16 → x ≤ tD A k ∧ x ≤ lD A k) : JJ (sF A 1034 323 (nI x)) (sF M 641 304 (nI x)) KN KS t T im ig F ek ty x := by
  obtain ⟨n, O, s, o, hO, hJ⟩ := JW_of h.jl h.nw h.n2
  obtain ⟨n', s', τ', hD⟩ := JD_of h.jd h.nw h.n2
  have tks := fun k (hk : k < 16) => h.live hk
  generalize hA1 : sF A 1034 323 (nI x) = A1
  generalize hM1 : sF M 641 304 (nI x) = M1
  have fA : ∀ f a, ¬ f = 1034 → mF A1 f a = mF A f a := fun f a hg => by subst hA1; rw [mF_sF, if_neg (fun e => hg e.1)]
  have fM : ∀ f a, ¬ f = 641 → mF M1 f a = mF M f a := fun f a hg => by subst hM1; rw [mF_sF, if_neg (fun e => hg e.1)]
  have nA : (mF A1 1034 323) = nI x := by subst hA1; rw [mF_sF, if_pos ⟨rfl, rfl⟩]
  have nM : (mF M1 641 304) = nI x := by subst hM1; rw [mF_sF, if_pos ⟨rfl, rfl⟩]
  have sA : mS A1 = mS A := by subst hA1; rfl
  have gA : mG A1 = mG A := by subst hA1; rfl
  have bA : mB A1 = mB A := by subst hA1; rfl
  have eA : mA A1 = mA A := by subst hA1; rfl
  have sM : mS M1 = mS M := by subst hM1; rfl
  have gM : mG M1 = mG M := by subst hM1; rfl
  have bM : mB M1 = mB M := by subst hM1; rfl
  have eM : mA M1 = mA M := by subst hM1; rfl
  have okM : ∀ a b, okA M1 a b ↔ okA M a b := fun a b => by subst hM1; exact Iff.rfl
  obtain ⟨hR, hW, hS, hX, hP, hQ, hE, -⟩ := h.jl
  have hR1 : RW A1 := by subst hA1; exact hR
  have hW1 : XW M1 := by subst hM1; exact hW
  have jw : JW t T A1 M1 := by
    obtain ⟨⟨a0, a1⟩, a2, a3, a4, a5, a6, a7, a8, a9, a10, a11, a12⟩ := hJ
    have hJ : JWa n O nw s o A M := ⟨⟨a0, a1⟩, a2, a3, a4, a5, a6, a7, a8, a9, a10, a11, a12⟩
    refine ⟨n, O, x, s, o, hO, ⟨a0, h2⟩, (fM _ _ (by decide)).trans a2, (fA _ _ (by decide)).trans a3, nA, a5, a6, fun i hi => (fA _ _ (by decide)).trans (a7 i hi), fun k hk z => (fA _ _ (by decide)).trans (a8 k hk z), fun i hi => ?_, a10, fun i hi => ⟨(a11 i hi).1, (fA _ _ (by decide)).trans (a11 i hi).2⟩, fun i j hi hj e => a12 i j hi hj (by rw [fA _ _ (by decide), fA _ _ (by decide)] at e; exact e)⟩
    obtain ⟨q, q1, q2⟩ := a9 i hi
    refine ⟨q, by rw [bM]; exact q1, ?_⟩
    have dd := hp (s i) (a5 i hi)
    have W := W1_congr (A' := A1) (M' := M1) (fun f h1 h2 => fA f _ (by omega)) (by rw [eA]) (fun f h1 h2 => fM f _ (by omega)) (by rw [eM]) q2
    obtain ⟨τ, as, w1, w2, w3, w4, w5, w6, w7, w8, w9⟩ := pd_at hJ hi q1
    obtain ⟨g1, ln, τ2, as2, g2, g3, g4, g5, g6, g7, g8, g9, g10, g11, g12, g13, g14⟩ := W
    have e1 : τ2 = τ := (nI_eq (by omega) (by omega)).mp (g7.symm.trans ((fA _ _ (by decide)).trans w1))
    have e2 : as2 = as := (nI_eq (by omega) (by omega)).mp (g9.symm.trans ((fA _ _ (by decide)).trans w3))
    subst e1
    subst e2
    exact ⟨g1, ln, τ2, as2, g2, g3, g4, g5, g6, g7, g8, g9, g10, g11, g12, by omega, by omega⟩
  have jl : JL0 KN KS t T A1 M1 := by
    refine ⟨hR1, hW1, XS_same sM gM hS, XRR_same sM bM hX, ?_, JQ_congr (A := A) (M := M) (fA _ _ (by decide)) (fun a _ _ => by rw [eA]) (fM _ _ (by decide)) (by rw [bM]) (fun i p _ => ⟨fM _ _ (by decide), fM _ _ (by decide), by rw [eM]⟩) hQ, JE_congr (A := A) (M := M) (fun f a z1 z2 => fA f a (by omega)) (fM _ _ (by decide)) (fun a _ _ => by rw [eM]) hE, jw⟩
    obtain ⟨p1, p2, p3, p4, -, p6, p7, p8, p9⟩ := hP
    refine ⟨?_, ?_, ?_, ?_, ⟨x, nA, nM, h2⟩, ?_, ?_, ?_, ?_⟩
    · rw [fA _ _ (by decide), fM _ _ (by decide)]; exact p1
    · rw [fA _ _ (by decide), fM _ _ (by decide)]; exact p2
    · rw [fA _ _ (by decide), fM _ _ (by decide)]; exact p3
    · rw [fA _ _ (by decide), fM _ _ (by decide)]; exact p4
    · rw [fA _ _ (by decide)]; exact p6
    · rw [fM _ _ (by decide)]; exact p7
    · rw [fA _ _ (by decide), fM _ _ (by decide)]; exact p8
    · rw [fA _ _ (by decide), fM _ _ (by decide)]; exact p9
  have hf := h.fi
  refine JJ.mk jl (Bd_same h.ba sA gA bA eA) (Bd_same h.bm sM gM bM eM) (fun i hi => by rw [eA, eM]; exact h.jn i hi) ?_ (by subst hA1; subst hM1; exact h.ji) (FI.mk hf.le ((fA _ _ (by decide)).trans hf.ca) ((fM _ _ (by decide)).trans hf.cm) (by rw [gM]; exact hf.ge) ((okM _ _).mpr hf.oe) (by rw [sM]; exact hf.l1) (by rw [sM]; exact hf.l2) (by rw [eA, eM]; exact hf.nm) (by rw [eA, eM]; exact hf.nu) (by rw [eA]; exact hf.pl) (by rw [eM]; exact hf.na) (by rw [sM]; exact hf.sp)) nA h2 ?_ ?_ ?_ ?_ (TS_c h.ts (fun f _ => fA f _ (by omega)) (by rw [eA]) (fun f _ => fM f _ (by omega)) (by rw [gM]) (fun a oa => ⟨(okM _ _).mpr oa, by rw [sM], by rw [sM]⟩) (fun a _ _ _ _ _ _ _ _ _ => by rw [eM]))
  · obtain ⟨⟨a0, a1⟩, a2, a3, a4, a5, a6, a7, a8, a9, a10, a11⟩ := hD
    have hD : JDa n' nw s' τ' A M := ⟨⟨a0, a1⟩, a2, a3, a4, a5, a6, a7, a8, a9, a10, a11⟩
    refine ⟨n', x, s', τ', ⟨a0, h2⟩, (fM _ _ (by decide)).trans a2, nA, a4, a5, fun i hi => (fA _ _ (by decide)).trans (a6 i hi), fun k hk z => (fA _ _ (by decide)).trans (a7 k hk z), fun i hi => ?_, fun i j z1 z2 => ?_, fun i hi => ?_, fun i j hi hj e1 e2 e3 => a11 i j hi hj (by rw [fA _ _ (by decide), fA _ _ (by decide)] at e1; exact e1) (by rw [fA _ _ (by decide), fA _ _ (by decide)] at e2; exact e2) (by rw [fA _ _ (by decide), fA _ _ (by decide)] at e3; exact e3)⟩
    · obtain ⟨d, q1, q2⟩ := a8 i hi
      refine ⟨d, by rw [bM]; exact q1, ?_⟩
      have W := D1_congr (A' := A1) (M' := M1) (fun f z1 z2 => fA f _ (by omega)) (by rw [eA]) (by rw [eA]) (fun f z1 z2 => fM f _ (by omega)) (by rw [eM]) (by rw [eM]) q2
      obtain ⟨-, -, -, -, w9⟩ := dd_at hD hi q1
      have dd := hd (s' i) (a4 i hi)
      obtain ⟨g1, g2, g3, g4, g5, g6, g7, g8, g9⟩ := W
      exact ⟨g1, g2, g3, g4, g5, g6, by omega, by omega, g9⟩
    · rw [fA _ _ (by decide), fA _ _ (by decide)]; exact a9 i j z1 z2
    · rw [fA _ _ (by decide), fA _ _ (by decide)]; exact a10 i hi
  · intro k hk
    rcases h.cc k hk with ⟨z1, z2⟩ | ⟨c, z1, z2, z3⟩
    · exact Or.inl ⟨by rw [bM]; exact z1, (fA _ _ (by decide)).trans z2⟩
    · refine Or.inr ⟨c, by rw [bM]; exact z1, (okM _ _).mpr z2, ?_⟩
      rcases z3 with ⟨y1, y2⟩ | z3
      · exact Or.inl ⟨(fA _ _ (by decide)).trans y1, (fM _ _ (by decide)).trans y2⟩
      · refine Or.inr ?_
        obtain ⟨hE, hP, ⟨b0, v, hI, hS⟩, hd', ft, hr⟩ := z3
        have tk : TK A M KN KS t T im ig k c nw hd' ft b0 v := TK.mk h.jl h.ba h.bm h.jn h.ji (CnO_of h.xs z2) hE hP hI hS hr h.nw h.n2
        have td := td_at tk
        have ld := ld_at tk
        obtain ⟨hc1, hc2⟩ := hc k hk
        have FA' : ∀ g, ¬ g = 1034 → mF A1 g (342 + 4 * k) = mF A g (342 + 4 * k) := fun g hg => fA g _ hg
        have FC' : ∀ g, ¬ g = 641 → mF M1 g c = mF M g c := fun g hg => fM g _ hg
        have FP' : ∀ g, ¬ g = 641 → mF M1 g (c + 5) = mF M g (c + 5) := fun g hg => fM g _ hg
        have FR' : ∀ g, ¬ g = 641 → mF M1 g (c + 2) = mF M g (c + 2) := fun g hg => fM g _ hg
        have hdA : mA A1 (343 + 4 * k) = mA A (343 + 4 * k) := by rw [eA]
        have hdM : mA M1 (c + 1) = mA M (c + 1) := by rw [eM]
        have rwA : mA A1 (344 + 4 * k) = mA A (344 + 4 * k) := by rw [eA]
        have rwM : mA M1 (c + 3) = mA M (c + 3) := by rw [eM]
        have thA : mA A1 (345 + 4 * k) = mA A (345 + 4 * k) := by rw [eA]
        have thM : mA M1 (c + 4) = mA M (c + 4) := by rw [eM]
        refine ⟨?_, ?_, ⟨b0, v, ?_, ?_⟩, hd', ft, ?_⟩
        · refine CE.mk ?_ ?_ ?_ ?_ ?_ ?_ ?_ ?_ ?_ ?_ ?_ ?_ ?_ ?_ ?_ ?_ ?_ ?_
          · exact (FA' 768 (by omega)).trans (hE.st.trans (FC' 64 (by omega)).symm)
          · exact (FA' 769 (by omega)).trans (hE.ip.trans (FC' 65 (by omega)).symm)
          · exact (FA' 770 (by omega)).trans (hE.po.trans (FC' 66 (by omega)).symm)
          · exact (FA' 771 (by omega)).trans (hE.is.trans (FC' 67 (by omega)).symm)
          · exact (FA' 772 (by omega)).trans (hE.una.trans (FC' 68 (by omega)).symm)
          · exact (FA' 773 (by omega)).trans (hE.at'.trans (FC' 69 (by omega)).symm)
          · exact (FA' 774 (by omega)).trans (hE.max.trans (FC' 70 (by omega)).symm)
          · exact (FA' 775 (by omega)).trans (hE.wi.trans (FC' 71 (by omega)).symm)
          · exact (FA' 776 (by omega)).trans (hE.w1.trans (FC' 82 (by omega)).symm)
          · exact (FA' 777 (by omega)).trans (hE.w2.trans (FC' 83 (by omega)).symm)
          · exact (FA' 794 (by omega)).trans (hE.hl.trans (FC' 78 (by omega)).symm)
          · exact (FA' 796 (by omega)).trans (hE.bl.trans (FC' 76 (by omega)).symm)
          · rw [FA' 796 (by omega), FA' 795 (by omega), FC' 75 (by omega)]; exact hE.bp
          · exact (FA' 797 (by omega)).trans (hE.bg.trans (FC' 77 (by omega)).symm)
          · exact (FA' 798 (by omega)).trans (hE.cl.trans (FC' 74 (by omega)).symm)
          · rw [FA' 768 (by omega), FA' 812 (by omega), FC' 73 (by omega)]; exact hE.la
          · rw [FA' 768 (by omega), FA' 813 (by omega), FC' 72 (by omega)]; exact hE.li
          · rw [FA' 794 (by omega), hdA, hdM]; exact hE.hd
        · refine CP.mk ?_ ?_ ?_ ?_ ?_ ?_ ?_ ?_ ?_ ?_ ?_ ?_
          · exact (FA' 778 (by omega)).trans (hP.ms.trans (FP' 320 (by omega)).symm)
          · exact (FA' 779 (by omega)).trans (hP.cw.trans (FP' 321 (by omega)).symm)
          · exact (FA' 780 (by omega)).trans (hP.ss.trans (FP' 322 (by omega)).symm)
          · exact (FA' 781 (by omega)).trans (hP.ro.trans (FP' 323 (by omega)).symm)
          · exact (FA' 791 (by omega)).trans (hP.tr.trans (FP' 325 (by omega)).symm)
          · exact (FA' 792 (by omega)).trans (hP.du.trans (FP' 326 (by omega)).symm)
          · exact (FA' 786 (by omega)).trans (hP.re.trans (FP' 327 (by omega)).symm)
          · exact (FA' 785 (by omega)).trans (hP.ti.trans (FP' 328 (by omega)).symm)
          · rw [FA' 785 (by omega), FA' 787 (by omega), FA' 788 (by omega), FP' 329 (by omega), FP' 330 (by omega)]; exact hP.tn
          · exact (FA' 784 (by omega)).trans (hP.me.trans (FP' 331 (by omega)).symm)
          · rw [FA' 784 (by omega), FA' 782 (by omega), FA' 783 (by omega), FP' 332 (by omega), FP' 333 (by omega)]; exact hP.sv
          · rw [FA' 789 (by omega), FA' 790 (by omega), FP' 324 (by omega)]; exact hP.tm
        · refine CI.mk ?_ ?_ ?_ ?_ ?_ ?_ ?_ ?_ ?_ ?_ ?_ ?_ ?_ ?_ ?_ ?_ ?_ ?_ ?_ ?_ ?_ ?_ ?_ ?_ ?_ ?_ ?_ ?_ ?_ ?_ ?_ ?_ ?_ ?_ ?_ ?_
          · exact (FA' 797 (by omega)).trans hI.bg
          · exact (FA' 772 (by omega)).trans hI.una
          · exact (FA' 773 (by omega)).trans hI.at'
          · exact (FA' 774 (by omega)).trans hI.max
          · exact hI.ua
          · exact hI.am
          · exact hI.mL
          · exact (FA' 794 (by omega)).trans hI.hl
          · exact hI.hl1
          · exact (FA' 796 (by omega)).trans hI.bl
          · exact hI.bl1
          · rw [FA' 795 (by omega)]; exact hI.bp
          · exact (FA' 798 (by omega)).trans hI.cl
          · exact hI.cl1
          · exact (FA' 799 (by omega)).trans hI.fn
          · exact hI.fn1
          · exact hI.fnI
          · exact (FA' 778 (by omega)).trans hI.ms
          · exact hI.ms1
          · exact (FA' 779 (by omega)).trans hI.cw
          · exact hI.cw1
          · exact (FA' 780 (by omega)).trans hI.ss
          · exact hI.ss1
          · exact (FA' 781 (by omega)).trans hI.ro
          · exact hI.ro1
          · exact (FA' 775 (by omega)).trans hI.wi
          · exact hI.wi1
          · exact (FA' 789 (by omega)).trans hI.on
          · exact hI.on1
          · intro z; obtain ⟨z1, z2, z3, z4⟩ := hI.tm z; exact ⟨(FA' _ (by decide)).trans z1, by omega, by omega, z4⟩
          · exact (FA' 785 (by omega)).trans hI.ti
          · exact hI.ti1
          · intro z; obtain ⟨z1, z2, z3, z4, z5, z6, z7⟩ := hI.tn z; exact ⟨z1, (FA' _ (by decide)).trans z2, z3, z4, (FA' _ (by decide)).trans z5, by omega, z7⟩
          · exact (FA' 784 (by omega)).trans hI.me
          · exact hI.me1
          · rw [FA' 782 (by omega), FA' 783 (by omega)]; exact hI.sv
        · refine CS.mk ?_ ?_ ?_ ?_ ?_ ?_ ?_ ?_ ?_
          · exact (FA' 768 (by omega)).trans hS.st
          · exact hS.st1
          · rw [FA' 771 (by omega), FA' 786 (by omega)]; exact hS.s1
          · exact hS.sN1
          · exact hS.s27
          · exact hS.s358
          · exact hS.s46
          · intro z; obtain ⟨z1, z2, z3⟩ := hS.la z; exact ⟨(FA' _ (by decide)).trans z1, by omega, by omega⟩
          · intro z; obtain ⟨z1, z2, z3⟩ := hS.si z; exact ⟨(FA' _ (by decide)).trans z1, by omega, by omega⟩
        · refine CR.mk ?_ ?_ ?_ ?_ ?_ ?_ ?_ ?_ ?_ ?_ ?_ ?_ ?_ ?_ ?_ ?_ ?_ ?_ ?_
          · exact (FA' 803 (by omega)).trans (hr.rd.trans (FR' 0 (by omega)).symm)
          · exact (FA' 804 (by omega)).trans (hr.nx.trans (FR' 1 (by omega)).symm)
          · exact (FA' 805 (by omega)).trans (hr.to.trans (FR' 2 (by omega)).symm)
          · exact (FA' 806 (by omega)).trans (hr.lv.trans (FR' 3 (by omega)).symm)
          · exact (FA' 807 (by omega)).trans (hr.ow.trans (FR' 4 (by omega)).symm)
          · exact (FA' 808 (by omega)).trans (hr.fk.trans (FR' 7 (by omega)).symm)
          · exact (FA' 809 (by omega)).trans (hr.fT.trans (FR' 8 (by omega)).symm)
          · rw [FA' 808 (by omega), FA' 810 (by omega), FR' 9 (by omega)]; exact hr.fq
          · exact (FA' 809 (by omega)).trans hr.ftN
          · exact hr.ft1
          · rw [FA' 804 (by omega), FA' 803 (by omega)]; exact hr.nxN
          · exact hr.hd1
          · rw [FA' 806 (by omega)]; exact hr.lvN
          · rw [FA' 805 (by omega)]; exact hr.toN
          · rw [rwA, rwM, FA' 803 (by omega)]; exact hr.rw
          · rw [FA' 768 (by omega)]; exact hr.st
          · rw [thA, thM, rwA, rwM, FA' 803 (by omega)]; exact hr.th
          · rw [thA]; exact hr.stp
          · rw [FA' 808 (by omega), FA' 804 (by omega), FA' 810 (by omega)]; exact hr.fnx
  · intro i j hi hj s1 s2 e1 e2
    rw [fA _ _ (by decide)] at s1 s2
    rw [fA _ _ (by decide), fA _ _ (by decide)] at e1 e2
    exact h.uq i j hi hj s1 s2 e1 e2
  · rw [eA, fA _ _ (by decide)]; exact h.zb
  · intro k hk z
    rw [fA _ _ (by decide)] at z
    obtain ⟨y, y1, y2⟩ := h.tr k hk z
    exact ⟨y, y1, (fA _ _ (by decide)).trans y2⟩
end Time
