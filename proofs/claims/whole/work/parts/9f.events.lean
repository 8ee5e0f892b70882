/-! ===== part 9f: events of connections, in the whole ===== -/
section Events
variable {A M A' M' : Mm} {KN KS t T im ig F ek ty nw : Nat}
theorem JJ_put2 {u T' k c : Nat} (h : JJ A M KN KS t T im ig F ek ty nw) (hk : k < 16) (hc : mB M 318 k = some c) (hs : (mF A 768 (342 + 4 * k)) ≠ 0) (fA : FWA k A A') (fM : FWM c M M') (hn : ∀ g, g = 769 ∨ g = 770 → mF A' g (342 + 4 * k) = mF A g (342 + 4 * k)) (h5 : mA A' 330 5 = mA A 330 5) (htr : (mF A' 768 (342 + 4 * k)) ≠ 0 → ∃ x, x ≤ 8 ∧ (mF A' 791 (342 + 4 * k)) = nI x) (tl : TL A' M' KN KS (t + u) T' im ig k c nw) : JJ A' M' KN KS (t + u) T' im ig F ek ty nw := by
  have hW := h.xw
  have oc := h.ok hc
  have hZ : CnZ M c := Or.inl (CnO_of h.xs oc)
  have e318 : mB M' 318 = mB M 318 := fM.2.2.2.1 318 (xw_ok318 hW).2.1 (by unfold BLx; omega)
  have b : JL0 KN KS (t + u) T' A' M' ∧ Bd RM TM A' ∧ Bd RX TX M' ∧ JN A' M' ∧ JI im ig A' M' := by
    rcases tl with ⟨_, _, _, _, k1⟩ | k1
    · exact ⟨k1.jl, k1.ba, k1.bm, k1.jn, k1.ji⟩
    · exact ⟨k1.jl, k1.ba, k1.bm, k1.jn, k1.ji⟩
  have ot : ∀ i g, i < 16 → i ≠ k → 768 ≤ g → g < 832 → mF A' g (342 + 4 * i) = mF A g (342 + 4 * i) := fun i g hi hik h1 h2 => fA.2.2.2.1 g _ (by unfold PWa PCa PL; omega)
  have st : ∀ i, i < 16 → mF A' 768 (342 + 4 * i) ≠ 0 → (mF A 768 (342 + 4 * i)) ≠ 0 := fun i hi hs' => by
    by_cases q : i = k
    · rw [q]; exact hs
    · rw [ot i 768 hi q (by decide) (by decide)] at hs'
      exact hs'
  have nm : ∀ i g, i < 16 → g = 769 ∨ g = 770 → mF A' g (342 + 4 * i) = mF A g (342 + 4 * i) := fun i g hi hg => by
    by_cases q : i = k
    · rw [q]; exact hn g hg
    · exact ot i g hi q (by omega) (by omega)
  refine JJ.mk b.1 b.2.1 b.2.2.1 b.2.2.2.1 (JD_w hW h.xs h.xr hZ (by omega) fA fM h.jd) b.2.2.2.2 (FI_z h.fi hZ hW (by omega) fA fM) ?_ h.n2 ?_ ?_ ?_ ?_ (TS_z h.ts hZ hW (by omega) fA fM)
  · rw [fA.2.2.2.1 _ _ (by unfold PWa PCa PL; omega)]; exact h.nw
  · intro j hj
    by_cases q : j = k
    · subst q
      refine Or.inr ⟨c, by rw [e318]; exact hc, fM.ok oc, ?_⟩
      rcases tl with ⟨hd, ft, b0, v, k1⟩ | k1
      · exact Or.inr ⟨k1.ce, k1.cp, ⟨b0, v, k1.ci, k1.cs⟩, hd, ft, k1.cr⟩
      · exact Or.inl ⟨k1.sa, k1.sx⟩
    · exact CK_w hW h.xs h.xr hZ hj q (fun cj e1 e2 => q (h.inj (by rw [e1, e2]) hc)) fA fM (h.cc j hj)
  · intro i j hi hj s1 s2 e1 e2
    rw [nm i 769 hi (by omega), nm j 769 hj (by omega)] at e1
    rw [nm i 770 hi (by omega), nm j 770 hj (by omega)] at e2
    exact h.uq i j hi hj (st i hi s1) (st j hj s2) e1 e2
  · rw [h5, fA.2.2.2.1 1036 323 (by unfold PWa PCa PL; omega)]; exact h.zb
  · intro i hi hs'
    by_cases q : i = k
    · rw [q] at hs' ⊢
      exact htr hs'
    · rw [ot i 791 hi q (by decide) (by decide)]
      exact h.tr i hi (st i hi hs')
/-- what a connection may still do by itself -/
def cm (A : Mm) (k : Nat) : Nat := if (mF A 768 (342 + 4 * k)) = 0 then 0 else 12 - ((mF A 791 (342 + 4 * k))).toNatClampNeg - (if (mF A 798 (342 + 4 * k)) = 0 then 0 else 1)
theorem cm_le (A : Mm) (k : Nat) : cm A k ≤ 12 := by
  unfold cm
  split <;> omega
/-- it can do less, the others as much -/
def Less (k : Nat) (A A' : Mm) : Prop := cm A' k < cm A k ∧ ∀ j, j < 16 → j ≠ k → cm A' j = cm A j
theorem Less_of {k : Nat} (fA : FWA k A A') (h : cm A' k < cm A k) : Less k A A' := ⟨h, fun j hj hjk => by
  have ot : ∀ g, 768 ≤ g → g < 832 → mF A' g (342 + 4 * j) = mF A g (342 + 4 * j) := fun g h1 h2 => fA.2.2.2.1 g _ (by unfold PWa PCa PL; omega)
  unfold cm
  rw [ot 768 (by decide) (by decide), ot 791 (by decide) (by decide), ot 798 (by decide) (by decide)]⟩
theorem clampN {x : Nat} (h : x < 2 ^ 31) : (nI x : Int32).toNatClampNeg = x := nI_clamp h
/-- a timer runs out, in both -/
theorem sp_run (fu : Nat) (hfu : 4000 ≤ fu) {k c : Nat} (h : JJ A M KN KS t T im ig F ek ty nw) (hk : k < 16) (hc : mB M 318 k = some c) (hs : (mF A 768 (342 + 4 * k)) ≠ 0) (hon : (mF A 789 (342 + 4 * k)) ≠ 0) (hT : T < 2 ^ 30) :
    ∃ A' M' T', fX16_runOut fu 323 (some (342 + 4 * k)) A = some A' ∧ fX9_runOut fu 317 (some c) M = some M' ∧ T ≤ T' ∧ T' ≤ T + 1 ∧ JJ A' M' KN KS t T' im ig F ek ty nw ∧ Less k A A' := by
  obtain ⟨hd, ft, b0, v, tk⟩ := h.tk hk hc hs
  obtain ⟨x, x1, x2⟩ := h.tr k hk hs
  have hI := tk.ci
  have hS := tk.cs
  have s11 := hS.st1
  have on1 : (v 14) = 1 := by
    have := hI.on1
    by_cases q : (v 14) = 0
    · exact absurd (by rw [hI.on, q]; rfl) hon
    · omega
  have cl1 : (if mF A 798 (342 + 4 * k) = 0 then 0 else 1) ≤ 1 := by split <;> omega
  have cmk : cm A k = 12 - x - (if mF A 798 (342 + 4 * k) = 0 then 0 else 1) := by
    unfold cm
    rw [if_neg hs, x2, clampN (by omega)]
  have goes : ∀ A' M' T' v', FCA k A A' → FCM c M M' → TK A' M' KN KS t T' im ig k c nw hd ft b0 v' → (∀ g, g = 769 ∨ g = 770 ∨ g = 798 → mF A' g (342 + 4 * k) = mF A g (342 + 4 * k)) → (mF A' 791 (342 + 4 * k)) = nI (x + 1) → mA A' 330 5 = mA A 330 5 → x + 1 ≤ 8 → JJ A' M' KN KS t T' im ig F ek ty nw ∧ Less k A A' := fun A' M' T' v' fA fM k1 k2 k3 k4 k5 => by
    refine ⟨JJ_put2 (u := 0) h hk hc hs fA.wa fM.wm (fun g hg => k2 g (by omega)) k4 (fun _ => ⟨x + 1, k5, k3⟩) (Or.inl ⟨_, _, _, _, k1⟩), Less_of fA.wa ?_⟩
    rw [cmk]
    unfold cm
    split
    · omega
    · rw [k3, clampN (by omega), k2 798 (by omega)]
      omega
  have gone : ∀ A' M' T', FCA k A A' → FCM c M M' → TD A' M' KN KS t T' im ig k c nw → (∀ g, g = 769 ∨ g = 770 → mF A' g (342 + 4 * k) = mF A g (342 + 4 * k)) → mA A' 330 5 = mA A 330 5 → JJ A' M' KN KS t T' im ig F ek ty nw ∧ Less k A A' := fun A' M' T' fA fM k1 k2 k4 => by
    refine ⟨JJ_put2 (u := 0) h hk hc hs fA.wa fM.wm k2 k4 (fun z => absurd k1.sa z) (Or.inr k1), Less_of fA.wa ?_⟩
    rw [cmk]
    unfold cm
    rw [if_pos k1.sa]
    omega
  by_cases q1 : (v 0) = 1
  · by_cases q5 : x + 1 ≤ 5
    · obtain ⟨A', M', T', v', r1, r2, r3, r4, r5, r6, r7, r8, r9, r10⟩ := sp_backS fu hfu tk hk q1 x2 q5 hT
      obtain ⟨g1, g2⟩ := goes A' M' T' v' r6 r7 r5 r8 r9 r10 (by omega)
      exact ⟨A', M', T', r1, r2, r3, r4, g1, g2⟩
    · obtain ⟨A', M', T', r1, r2, r3, r4, r5, r6, r7, r8, r9⟩ := sp_backG fu hfu tk hk x2 x1 (Or.inl ⟨q1, by omega⟩) hT
      obtain ⟨g1, g2⟩ := gone A' M' T' r6 r7 r5 r8 r9
      exact ⟨A', M', T', r1, r2, r3, r4, g1, g2⟩
  · by_cases q8 : x + 1 ≤ 8
    · have u1 := hS.sN1 q1
      have ul := (hI.tm on1).2.2.2 (by omega)
      have st : sendSt (v 0) := by
        unfold sendSt
        have a46 := hS.s46
        have fnI := hI.fnI
        by_cases z : (v 0) = 4 ∨ (v 0) = 6
        · obtain ⟨y1, y2⟩ := a46 z
          obtain ⟨y3, -⟩ := fnI.mp y1
          omega
        · omega
      obtain ⟨A', M', T', v', r1, r2, r3, r4, r5, r6, r7, r8, r9, r10⟩ := sp_backD fu hfu tk hk st on1 x2 q8 hT
      obtain ⟨g1, g2⟩ := goes A' M' T' v' r6 r7 r5 r8 r9 r10 q8
      exact ⟨A', M', T', r1, r2, r3, r4, g1, g2⟩
    · obtain ⟨A', M', T', r1, r2, r3, r4, r5, r6, r7, r8, r9⟩ := sp_backG fu hfu tk hk x2 x1 (Or.inr ⟨q1, by omega⟩) hT
      obtain ⟨g1, g2⟩ := gone A' M' T' r6 r7 r5 r8 r9
      exact ⟨A', M', T', r1, r2, r3, r4, g1, g2⟩
/-- our side closes, in both -/
theorem TK_close2 {k c hd ft : Nat} {b0 : Int32} {v : Nat → Nat} (h : TK A M KN KS t T im ig k c nw hd ft b0 v) (h7 : (v 0) = 2) (h0 : (v 7) = 0) : TK (sF A 798 (342 + 4 * k) 1) (sF M 74 c 1) KN KS t T im ig k c nw hd ft b0 (uv v 7 1) := by
  generalize hA1 : sF A 798 (342 + 4 * k) 1 = A1
  generalize hM1 : sF M 74 c 1 = M1
  have FA' : ∀ g, ¬ g = 798 → mF A1 g (342 + 4 * k) = mF A g (342 + 4 * k) := fun g hg => by subst hA1; rw [mF_sF, if_neg (fun e => hg e.1)]
  have FC' : ∀ g, ¬ g = 74 → mF M1 g c = mF M g c := fun g hg => by subst hM1; rw [mF_sF, if_neg (fun e => hg e.1)]
  have FP' : ∀ g, ¬ 100000 ≤ g → mF M1 g (c + 5) = mF M g (c + 5) := fun g _ => by subst hM1; rw [mF_sF, if_neg (by omega)]
  have FR' : ∀ g, ¬ 100000 ≤ g → mF M1 g (c + 2) = mF M g (c + 2) := fun g hg => by subst hM1; rw [mF_sF, if_neg (by omega)]
  have eA : mA A1 = mA A := by subst hA1; rfl
  have eM : mA M1 = mA M := by subst hM1; rfl
  have hdA : mA A1 (343 + 4 * k) = mA A (343 + 4 * k) := by rw [eA]
  have hdM : mA M1 (c + 1) = mA M (c + 1) := by rw [eM]
  have rwA : mA A1 (344 + 4 * k) = mA A (344 + 4 * k) := by rw [eA]
  have rwM : mA M1 (c + 3) = mA M (c + 3) := by rw [eM]
  have thA : mA A1 (345 + 4 * k) = mA A (345 + 4 * k) := by rw [eA]
  have thM : mA M1 (c + 4) = mA M (c + 4) := by rw [eM]
  have v6 : mF A1 798 (342 + 4 * k) = nI 1 := by subst hA1; rw [mF_sF, if_pos ⟨rfl, rfl⟩]; rfl
  have v3 : mF M1 74 c = nI 1 := by subst hM1; rw [mF_sF, if_pos ⟨rfl, rfl⟩]; rfl
  have hE := h.ce
  have hP := h.cp
  have hI := h.ci
  have hS := h.cs
  have hr := h.cr
  have mL := hI.mL
  have fn0 := hS.s27 (Or.inl h7)
  refine (TK_upd (u := 0) h h.t1000 (by subst hA1; rfl) (by subst hA1; rfl) (by subst hA1; rfl) eA (fun f a q => by subst hA1; rw [mF_sF, if_neg (fun e => q ⟨by omega, by omega, e.2⟩)]) (by subst hM1; rfl) (by subst hM1; rfl) (by subst hM1; rfl) eM (fun f a q _ _ => by subst hM1; rw [mF_sF, if_neg (fun e => q e.2)]) ?_ ?_ ?_ ?_ ?_).1
  · refine CE.mk ?_ ?_ ?_ ?_ ?_ ?_ ?_ ?_ ?_ ?_ ?_ ?_ ?_ ?_ ?_ ?_ ?_ ?_
    · exact (FA' 768 (by omega)).trans (hE.st.trans (FC' 64 (by omega)).symm)
    · exact (FA' 769 (by omega)).trans (hE.ip.trans (FC' 65 (by omega)).symm)
    · exact (FA' 770 (by omega)).trans (hE.po.trans (FC' 66 (by omega)).symm)
    · exact (FA' 771 (by omega)).trans (hE.is.trans (FC' 67 (by omega)).symm)
    · exact (FA' 772 (by omega)).trans (hE.una.trans (FC' 68 (by omega)).symm)
    · exact (FA' 773 (by omega)).trans (hE.at'.trans (FC' 69 (by omega)).symm)
    · exact (FA' 774 (by omega)).trans (hE.max.trans (FC' 70 (by omega)).symm)
    · exact (FA' 775 (by omega)).trans (hE.wi.trans (FC' 71 (by omega)).symm)
    · exact (FA' 776 (by omega)).trans (hE.w1.trans (FC' 82 (by omega)).symm)
    · exact (FA' 777 (by omega)).trans (hE.w2.trans (FC' 83 (by omega)).symm)
    · exact (FA' 794 (by omega)).trans (hE.hl.trans (FC' 78 (by omega)).symm)
    · exact (FA' 796 (by omega)).trans (hE.bl.trans (FC' 76 (by omega)).symm)
    · rw [FA' 796 (by omega), FA' 795 (by omega), FC' 75 (by omega)]; exact hE.bp
    · exact (FA' 797 (by omega)).trans (hE.bg.trans (FC' 77 (by omega)).symm)
    · exact v6.trans v3.symm
    · rw [FA' 768 (by omega), FA' 812 (by omega), FC' 73 (by omega)]; exact hE.la
    · rw [FA' 768 (by omega), FA' 813 (by omega), FC' 72 (by omega)]; exact hE.li
    · rw [FA' 794 (by omega), hdA, hdM]; exact hE.hd
  · refine CP.mk ?_ ?_ ?_ ?_ ?_ ?_ ?_ ?_ ?_ ?_ ?_ ?_
    · exact (FA' 778 (by omega)).trans (hP.ms.trans (FP' 320 (by omega)).symm)
    · exact (FA' 779 (by omega)).trans (hP.cw.trans (FP' 321 (by omega)).symm)
    · exact (FA' 780 (by omega)).trans (hP.ss.trans (FP' 322 (by omega)).symm)
    · exact (FA' 781 (by omega)).trans (hP.ro.trans (FP' 323 (by omega)).symm)
    · exact (FA' 791 (by omega)).trans (hP.tr.trans (FP' 325 (by omega)).symm)
    · exact (FA' 792 (by omega)).trans (hP.du.trans (FP' 326 (by omega)).symm)
    · exact (FA' 786 (by omega)).trans (hP.re.trans (FP' 327 (by omega)).symm)
    · exact (FA' 785 (by omega)).trans (hP.ti.trans (FP' 328 (by omega)).symm)
    · rw [FA' 785 (by omega), FA' 787 (by omega), FA' 788 (by omega), FP' 329 (by omega), FP' 330 (by omega)]; exact hP.tn
    · exact (FA' 784 (by omega)).trans (hP.me.trans (FP' 331 (by omega)).symm)
    · rw [FA' 784 (by omega), FA' 782 (by omega), FA' 783 (by omega), FP' 332 (by omega), FP' 333 (by omega)]; exact hP.sv
    · rw [FA' 789 (by omega), FA' 790 (by omega), FP' 324 (by omega)]; exact hP.tm
  · refine CI.mk ?_ ?_ ?_ ?_ ?_ ?_ ?_ ?_ ?_ ?_ ?_ ?_ ?_ ?_ ?_ ?_ ?_ ?_ ?_ ?_ ?_ ?_ ?_ ?_ ?_ ?_ ?_ ?_ ?_ ?_ ?_ ?_ ?_ ?_ ?_ ?_
    · exact (FA' 797 (by omega)).trans hI.bg
    · exact (FA' 772 (by omega)).trans hI.una
    · exact (FA' 773 (by omega)).trans hI.at'
    · exact (FA' 774 (by omega)).trans hI.max
    · exact hI.ua
    · exact hI.am
    · show (v 3) ≤ 1 + (v 4) + (v 5) + 1; omega
    · exact (FA' 794 (by omega)).trans hI.hl
    · exact hI.hl1
    · exact (FA' 796 (by omega)).trans hI.bl
    · exact hI.bl1
    · rw [FA' 795 (by omega)]; exact hI.bp
    · exact v6
    · exact Nat.le_refl 1
    · exact (FA' 799 (by omega)).trans hI.fn
    · exact hI.fn1
    · show (v 8) = 1 ↔ ((1 : Nat) = 1 ∧ (v 3) = (v 4) + (v 5) + 2); omega
    · exact (FA' 778 (by omega)).trans hI.ms
    · exact hI.ms1
    · exact (FA' 779 (by omega)).trans hI.cw
    · exact hI.cw1
    · exact (FA' 780 (by omega)).trans hI.ss
    · exact hI.ss1
    · exact (FA' 781 (by omega)).trans hI.ro
    · exact hI.ro1
    · exact (FA' 775 (by omega)).trans hI.wi
    · exact hI.wi1
    · exact (FA' 789 (by omega)).trans hI.on
    · exact hI.on1
    · intro z; obtain ⟨z1, z2, z3, z4⟩ := hI.tm z; exact ⟨(FA' 790 (by omega)).trans z1, z2, z3, fun w => by have := z4 w; show (v 1) < 1 + (v 4) + (v 5) + 1; omega⟩
    · exact (FA' 785 (by omega)).trans hI.ti
    · exact hI.ti1
    · rw [FA' 787 (by omega), FA' 788 (by omega)]; exact hI.tn
    · exact (FA' 784 (by omega)).trans hI.me
    · exact hI.me1
    · rw [FA' 782 (by omega), FA' 783 (by omega)]; exact hI.sv
  · refine CS.mk ?_ ?_ ?_ ?_ ?_ ?_ ?_ ?_ ?_
    · exact (FA' 768 (by omega)).trans hS.st
    · exact hS.st1
    · exact fun z => absurd (show (v 0) = 1 from z) (by omega)
    · exact hS.sN1
    · exact hS.s27
    · exact hS.s358
    · exact hS.s46
    · intro z; obtain ⟨q1, q2, q3⟩ := hS.la z; exact ⟨(FA' 812 (by omega)).trans q1, q2, fun y g => absurd (show (1 : Nat) = 0 from g) (by decide)⟩
    · rw [FA' 813 (by omega)]; exact hS.si
  · refine CR.mk ?_ ?_ ?_ ?_ ?_ ?_ ?_ ?_ ?_ ?_ ?_ ?_ ?_ ?_ ?_ ?_ ?_ ?_ ?_
    · exact (FA' 803 (by omega)).trans (hr.rd.trans (FR' 0 (by omega)).symm)
    · exact (FA' 804 (by omega)).trans (hr.nx.trans (FR' 1 (by omega)).symm)
    · exact (FA' 805 (by omega)).trans (hr.to.trans (FR' 2 (by omega)).symm)
    · exact (FA' 806 (by omega)).trans (hr.lv.trans (FR' 3 (by omega)).symm)
    · exact (FA' 807 (by omega)).trans (hr.ow.trans (FR' 4 (by omega)).symm)
    · exact (FA' 808 (by omega)).trans (hr.fk.trans (FR' 7 (by omega)).symm)
    · exact (FA' 809 (by omega)).trans (hr.fT.trans (FR' 8 (by omega)).symm)
    · rw [FA' 808 (by omega), FA' 810 (by omega), FR' 9 (by omega)]; exact hr.fq
    · exact (FA' 809 (by omega)).trans hr.ftN
    · exact hr.ft1
    · rw [FA' 804 (by omega), FA' 803 (by omega)]; exact hr.nxN
    · exact hr.hd1
    · rw [FA' 806 (by omega)]; exact hr.lvN
    · rw [FA' 805 (by omega)]; exact hr.toN
    · rw [rwA, rwM, FA' 803 (by omega)]; exact hr.rw
    · rw [FA' 768 (by omega)]; exact hr.st
    · rw [thA, thM, rwA, rwM, FA' 803 (by omega)]; exact hr.th
    · rw [thA]; exact hr.stp
    · rw [FA' 808 (by omega), FA' 804 (by omega), FA' 810 (by omega)]; exact hr.fnx
/-- all of the answer went out -/
theorem CI_end {k : Nat} {im : Nat} {b0 : Int32} {v : Nat → Nat} (hI : CI A k nw t im b0 v) : (mF A 773 (342 + 4 * k)) = (mF A 797 (342 + 4 * k)) + (mF A 794 (342 + 4 * k)) + (mF A 796 (342 + 4 * k)) ↔ (v 2) = 1 + (v 4) + (v 5) := by
  have e1 : b0 + 1 + nI (v 4) + nI (v 5) = b0 + nI (1 + (v 4) + (v 5)) := by
    rw [Int32.add_assoc, nI_add, Int32.add_assoc, show (1 : Int32) + nI ((v 4) + (v 5)) = nI (1 + ((v 4) + (v 5))) from nI_add 1 _, show 1 + ((v 4) + (v 5)) = 1 + (v 4) + (v 5) by omega]
  have h1 := hI.am
  have h2 := hI.mL
  have h3 := hI.hl1
  have h4 := hI.bl1
  have h5 := hI.cl1
  rw [hI.at', hI.bg, hI.hl, hI.bl, e1]
  exact ⟨fun e => b0_inj (by omega) (by omega) e, fun e => by rw [e]⟩
/-- a life ends, in both -/
theorem sp_life (fu : Nat) (hfu : 100000 ≤ fu) {k c : Nat} (h : JJ A M KN KS t T im ig F ek ty nw) (hk : k < 16) (hc : mB M 318 k = some c) (hs : (mF A 768 (342 + 4 * k)) ≠ 0) (hcl : (mF A 768 (342 + 4 * k)) = 2 → (mF A 798 (342 + 4 * k)) = 0 ∧ (mF A 773 (342 + 4 * k)) = (mF A 797 (342 + 4 * k)) + (mF A 794 (342 + 4 * k)) + (mF A 796 (342 + 4 * k))) (hT : T + 140000 < 2 ^ 30) :
    ∃ A' M' T', fX16_lifeEnds fu 323 (some (342 + 4 * k)) A = some A' ∧ (∀ {β : Type} (K : Mm → Option β), ((rc M 1 (some c)).bind fun q31 => (fX1_endLife fu q31 M).bind fun M32 => (gR M32 11 708 (some 300)).bind fun v33 => (rc M32 9 v33).bind fun q34 => (fX9_sendWhatMay fu q34 (some c) M32).bind fun M35 => K M35) = K M') ∧ T ≤ T' ∧ T' ≤ T + 1 ∧ JJ A' M' KN KS t T' im ig F ek ty nw ∧ Less k A A' := by
  obtain ⟨hd, ft, b0, v, tk⟩ := h.tk hk hc hs
  obtain ⟨x, x1, x2⟩ := h.tr k hk hs
  have hI := tk.ci
  have hS := tk.cs
  have s11 := hS.st1
  have hR := h.rw'
  have hW := h.xw
  have hA := rw_cnO hR k hk
  have c1 := tk.cn.1
  have cmk : cm A k = 12 - x - (if mF A 798 (342 + 4 * k) = 0 then 0 else 1) := by
    unfold cm
    rw [if_neg hs, x2, clampN (by omega)]
  have st2 : (mF A 768 (342 + 4 * k)) = (2 : Int32) ↔ (v 0) = 2 := by rw [hS.st]; exact nI_eq (b := 2) (by omega) (by decide)
  unfold fX16_lifeEnds fX1_endLife
  by_cases q : (v 0) = 2
  · obtain ⟨c0, cE⟩ := hcl (st2.mpr q)
    have aE := (CI_end hI).mp cE
    have v0 : (v 7) = 0 := by
      rw [hI.cl] at c0
      exact (nI_eq (b := 0) (by have := hI.cl1; omega) (by decide)).mp c0
    have tk1 := TK_close2 tk q v0
    obtain ⟨A', M', T', v', s1, s2, s3, s4, s5, s6, s7, s8, s9⟩ := sp_sendAll fu hfu tk1 hk (by omega)
    have ll : lfN (uv v 7 1) ≤ 1 := by
      unfold lfN
      show 1 + (v 4) + (v 5) + 1 - (v 2) ≤ 1
      omega
    have fA : FCA k A A' := (FF.ca (S := fun f => f = 798) (FF.s _ rfl) (by intro f hf; omega)).tr s6
    have fM : FCM c M M' := (FF.cm (S := fun f => f = 74) (FF.s _ rfl) (Or.inl rfl)).tr s7
    have g9 : ∀ g, ¬ SSd g → g ≠ 798 → g < 896 → mF A' g (342 + 4 * k) = mF A g (342 + 4 * k) := fun g h1 h2 h3 => by rw [s8 g h1 h3, mF_sF, if_neg (fun e => h2 e.1)]
    have t91 : (mF A' 791 (342 + 4 * k)) = nI x := by rw [g9 791 (by unfold SSd; omega) (by decide) (by decide)]; exact x2
    have h5 : mA A' 330 5 = mA A 330 5 := by
      have hR1 : RW (sF A 798 (342 + 4 * k) 1) := hR
      rw [(zX16_sendAll fu 323 _ (sF A 798 (342 + 4 * k) 1) hR1 rfl s1).1.2.2.2.2.1]
      rfl
    refine ⟨A', M', T', ?_, fun K => ?_, s3, by omega, JJ_put2 (u := 0) h hk hc hs fA.wa fM.wm (fun g hg => g9 g (by unfold SSd; omega) (by omega) (by omega)) h5 (fun _ => ⟨x, x1, t91⟩) (Or.inl ⟨_, _, _, _, s5⟩), Less_of fA.wa ?_⟩
    · rw [gI_ok hA, ob_some, if_pos (st2.mpr q), pZ_ok hA (Or.inr rfl), ob_some, rc_ok (rw_ok323 tk1.rw'), ob_some, s1, ob_some]
    · rw [rc_ok c1, ob_some, gI_ok c1, ob_some, ← tk.ce.st, if_pos (st2.mpr q), pZ_ok c1 (Or.inr rfl), ob_some, ob_some, gR_ok (xw_ok300 tk1.xw), ob_some, xw_g708_300 tk1.xw, rc_ok (xw_ok317 tk1.xw), ob_some, s2, ob_some]
    · rw [cmk, if_pos c0]
      have c1' : mF A' 798 (342 + 4 * k) ≠ 0 := by
        rw [s8 798 (by unfold SSd; omega) (by decide), mF_sF, if_pos ⟨rfl, rfl⟩]
        decide
      unfold cm
      split
      · omega
      · first | rw [t91, clampN (by omega), if_neg c1'] | rw [t91, clampN (by omega)]
        omega
  · obtain ⟨A', M', s1, s2, s3, s4, s5⟩ := sp_gone fu tk hk
    have h5 : mA A' 330 5 = mA A 330 5 := by rw [(zX16_gone fu 323 _ A hR rfl s1).1.2.2.2.2.1]
    have nm : ∀ g, g = 769 ∨ g = 770 → mF A' g (342 + 4 * k) = mF A g (342 + 4 * k) := fun g hg => (zX16_gone fu 323 _ A hR rfl s1).1.2.2.2.1 g _ (by omega)
    have hW' : XW M' := s3.jl.2.1
    refine ⟨A', M', T, ?_, fun K => ?_, Nat.le_refl _, by omega, JJ_put2 (u := 0) h hk hc hs s4.wa s5.wm nm h5 (fun z => absurd s3.sa z) (Or.inr s3), Less_of s4.wa ?_⟩
    · rw [gI_ok hA, ob_some, if_neg (fun z => q (st2.mp z)), rc_ok (rw_ok323 hR), ob_some, s1, ob_some]
    · rw [rc_ok c1, ob_some, gI_ok c1, ob_some, ← tk.ce.st, if_neg (fun z => q (st2.mp z)), rc_ok c1, ob_some, s2, ob_some, ob_some, gR_ok (xw_ok300 hW'), ob_some, xw_g708_300 hW', rc_ok (xw_ok317 hW'), ob_some]
      unfold fX9_sendWhatMay
      rw [gI_ok s3.cn.1, ob_some, if_pos s3.sx, ob_some]
    · rw [cmk]
      have : (if mF A 798 (342 + 4 * k) = 0 then 0 else 1) ≤ 1 := by split <;> omega
      unfold cm
      rw [if_pos s3.sa]
      omega
end Events
