/-! ===== part 98b: bytes are taken out, in both ===== -/
section Skip
variable {A A' M M' : Mm}
theorem hld_read {k hd ft n : Nat} {B : Mm} (h1 : (mF B 804 (342 + 4 * k)) = (mF A 803 (342 + 4 * k)) + nI (hd + ft)) (h2 : (mF B 803 (342 + 4 * k)) = (mF A 803 (342 + 4 * k)) + nI n) (h3 : (mF B 809 (342 + 4 * k)) = nI ft) (hft : ft ≤ 1) (hn : n ≤ hd) : hldA B k = nI (hd - n) := by
  unfold hldA
  rw [h1, h2, h3, sub_b0, nI_sub (by omega)]
  have : ft = 0 ∨ ft = 1 := by omega
  rcases this with q | q
  · subst q
    rw [if_pos (show nI 0 = 0 from rfl), Int32.sub_zero]
    rfl
  · subst q
    rw [if_neg (show ¬ nI 1 = 0 by decide), show (1 : Int32) = nI 1 from rfl, nI_sub (by omega)]
    congr 1
    omega
/-- n bytes are taken out, in both -/
theorem sp_take (fu : Nat) (hfu : 5000 ≤ fu) {KN KS t T k c nw im ig hd ft n : Nat} {b0 : Int32} {v : Nat → Nat} (h : TK A M KN KS t T im ig k c nw hd ft b0 v) (hk : k < 16) (hn : n ≤ hd) :
    ∃ A' M', fX16_take fu 323 (some (342 + 4 * k)) (nI n) A = some A' ∧ fX0_leave fu (c + 2) (nI n) M = some M' ∧ TK A' M' KN KS t T im ig k c nw (hd - n) ft b0 v ∧ FCA k A A' ∧ FCM c M M' ∧ (∀ f, ¬ (f = 803 ∨ f = 807) → mF A' f (342 + 4 * k) = mF A f (342 + 4 * k)) ∧ (∀ f a, ¬ ((f = 0 ∨ f = 4) ∧ a = c + 2) → mF M' f a = mF M f a) ∧ mA M' = mA M ∧ (mF A' 803 (342 + 4 * k)) = (mF A 803 (342 + 4 * k)) + nI n ∧ (∀ j, j + n < 4096 → mA A' (344 + 4 * k) j = mA A (344 + 4 * k) (j + n)) ∧ mS M' = mS M ∧ mG M' = mG M ∧ mB M' = mB M ∧
      ((mF A' 807 (342 + 4 * k)) = (if (nI (4096 - (hd - n)) - (mF A 805 (342 + 4 * k)) < (2048 : Int32)) then (mF A 807 (342 + 4 * k)) else 1)) ∧ (∀ f a, ¬ ((f = 803 ∨ f = 807) ∧ a = 342 + 4 * k) → mF A' f a = mF A f a) ∧ (∀ a, a ≠ 344 + 4 * k → a ≠ 345 + 4 * k → mA A' a = mA A a) ∧ mS A' = mS A ∧ mG A' = mG A ∧ mB A' = mB A := by
  have hR := h.rw'
  have hW := h.xw
  have hr := h.cr
  have hE := h.ce
  have hC := h.cn
  have c7 := hC.2.2.2.2.2.2.1
  have hd1 := hr.hd1
  have hft := hr.ft1
  have hB : ∀ j, isB (mA A (344 + 4 * k) j) := fun j => h.ba.2.2.2.2 _ j (rw_cnR hR k hk).2.2
  have hm := m_take fu (by omega) hR hk (n := n) (by omega) hB
  have e4 : (4096 : Int32) - nI (hd - n) = nI (4096 - (hd - n)) := nI_sub (x := 4096) (by omega)
  generalize hA1 : sF (tkA A k n 4096) 803 (342 + 4 * k) ((mF A 803 (342 + 4 * k)) + nI n) = A1 at hm
  have F1 : ∀ f a, ¬ (f = 803 ∧ a = 342 + 4 * k) → mF A1 f a = mF A f a := fun f a hh => by subst hA1; rw [mF_sF, if_neg hh]; rfl
  have r1 : (mF A1 803 (342 + 4 * k)) = (mF A 803 (342 + 4 * k)) + nI n := by subst hA1; rw [mF_sF, if_pos ⟨rfl, rfl⟩]
  have hl1 : hldA A1 k = nI (hd - n) := hld_read (A := A) (F1 804 _ (by omega) |>.trans hr.nxN) r1 ((F1 809 _ (by omega)).trans hr.ftN) hft hn
  rw [hl1, e4] at hm
  have a1T : mA A1 (345 + 4 * k) = tkT (mA A (345 + 4 * k)) n 4096 := by
    subst hA1
    show mA (tkA A k n 4096) (345 + 4 * k) = _
    unfold tkA
    rw [mA_wA_ne (by omega), mA_wA_self]
  have a1R : mA A1 (344 + 4 * k) = tkR (mA A (344 + 4 * k)) n 4096 := by
    subst hA1
    show mA (tkA A k n 4096) (344 + 4 * k) = _
    unfold tkA
    rw [mA_wA_self]
  have a1o : ∀ a, a ≠ 344 + 4 * k → a ≠ 345 + 4 * k → mA A1 a = mA A a := fun a g1 g2 => by
    subst hA1
    show mA (tkA A k n 4096) a = _
    unfold tkA
    rw [mA_wA_ne g1, mA_wA_ne g2]
  have s1 : mS A1 = mS A ∧ mG A1 = mG A ∧ mB A1 = mB A := by subst hA1; exact ⟨rfl, rfl, rfl⟩
  -- the class
  generalize hM1 : sF M 0 (c + 2) ((mF A 803 (342 + 4 * k)) + nI n) = M1
  have X1 : ∀ f a, ¬ (f = 0 ∧ a = c + 2) → mF M1 f a = mF M f a := fun f a hh => by subst hM1; rw [mF_sF, if_neg hh]
  have x1r : (mF M1 0 (c + 2)) = (mF A 803 (342 + 4 * k)) + nI n := by subst hM1; rw [mF_sF, if_pos ⟨rfl, rfl⟩]
  have hx1 : hldX M1 c = nI (hd - n) := by
    rw [← hl1]
    unfold hldX hldA
    rw [x1r, r1, X1 1 _ (by omega), X1 8 _ (by omega), F1 804 _ (by omega), F1 809 _ (by omega), hr.nx, hr.fT]
  have hx : fX0_leave fu (c + 2) (nI n) M = if (nI (4096 - (hd - n)) - (mF A 805 (342 + 4 * k)) < (2048 : Int32)) then some M1 else some (sF M1 4 (c + 2) 1) := by
    have o1 : okA M1 0 (c + 2) := by subst hM1; exact c7
    unfold fX0_leave
    rw [gI_ok c7, ob_some, pF_ok c7, ob_some, ← hr.rd, hM1, rc_ok o1, ob_some, x_window o1, b2_some, hx1, e4, gI_ok o1, ob_some, X1 2 _ (by omega), ← hr.to]
    split
    · rfl
    · rw [pZ_ok o1 (Or.inr rfl), ob_some]
  -- both ends
  have main : ∀ A' M', fX16_take fu 323 (some (342 + 4 * k)) (nI n) A = some A' → fX0_leave fu (c + 2) (nI n) M = some M' → mS A' = mS A1 → mG A' = mG A1 → mB A' = mB A1 → mA A' = mA A1 → (∀ f a, ¬ (f = 807 ∧ a = 342 + 4 * k) → mF A' f a = mF A1 f a) → mS M' = mS M1 → mG M' = mG M1 → mB M' = mB M1 → mA M' = mA M1 → (∀ f a, ¬ (f = 4 ∧ a = c + 2) → mF M' f a = mF M1 f a) → (mF A' 807 (342 + 4 * k)) = (mF M' 4 (c + 2)) → TK A' M' KN KS t T im ig k c nw (hd - n) ft b0 v ∧ FCA k A A' ∧ FCM c M M' := by
    intro A' M' e1 e2 g1 g2 g3 g4 g5 y1 y2 y3 y4 y5 ow
    have FA' : ∀ g, ¬ (g = 803 ∨ g = 807) → mF A' g (342 + 4 * k) = mF A g (342 + 4 * k) := fun g hg => (g5 g _ (by omega)).trans (F1 g _ (by omega))
    have FC' : ∀ g, ¬ 100000 ≤ g → mF M' g c = mF M g c := fun g _ => (y5 g _ (by omega)).trans (X1 g _ (by omega))
    have FR' : ∀ g, ¬ (g = 0 ∨ g = 4) → mF M' g (c + 2) = mF M g (c + 2) := fun g hg => (y5 g _ (by omega)).trans (X1 g _ (by omega))
    have FP' : ∀ g, ¬ 100000 ≤ g → mF M' g (c + 5) = mF M g (c + 5) := fun g _ => (y5 g _ (by omega)).trans (X1 g _ (by omega))
    have mM : mS M1 = mS M ∧ mG M1 = mG M ∧ mB M1 = mB M ∧ mA M1 = mA M := by subst hM1; exact ⟨rfl, rfl, rfl, rfl⟩
    have hdA : mA A' (343 + 4 * k) = mA A (343 + 4 * k) := by rw [g4]; exact a1o _ (by omega) (by omega)
    have hdM : mA M' (c + 1) = mA M (c + 1) := by rw [y4, mM.2.2.2]
    obtain ⟨z1, z2, z3⟩ := TB_upd2 (k := k) (u := 0) h.tb h.t1000 (oX16_take fu 323 _ _ A h.ba (by unfold RM; omega) (inR_some (by unfold RM; omega)) e1).2 (oX0_leave fu (c + 2) _ M h.bm (h.bm.1 _ 0 c7 (by unfold TX; omega)) e2).2 (g1.trans s1.1) (g2.trans s1.2.1) (g3.trans s1.2.2) (fun a hh => by rw [g4]; exact a1o a (by omega) (by omega)) hk (fun f a hh => (g5 f a (by omega)).trans (F1 f a (by omega))) (y1.trans mM.1) (y2.trans mM.2.1) (y3.trans mM.2.2.1) (fun a _ _ _ => by rw [y4, mM.2.2.2]) (fun f a _ q2 _ => (y5 f a (fun e => q2 e.2)).trans (X1 f a (fun e => q2 e.2)))
    have rd' : (mF A' 803 (342 + 4 * k)) = (mF A 803 (342 + 4 * k)) + nI n := (g5 _ _ (by omega)).trans r1
    have rdx : (mF M' 0 (c + 2)) = (mF A 803 (342 + 4 * k)) + nI n := (y5 _ _ (by omega)).trans x1r
    refine ⟨z1.tk ?_ ?_ ?_ ?_ ?_, z2, z3⟩
    · refine CE.mk ?_ ?_ ?_ ?_ ?_ ?_ ?_ ?_ ?_ ?_ ?_ ?_ ?_ ?_ ?_ ?_ ?_ ?_
      · exact (FA' 768 (by omega)).trans (hE.st.trans (FC' 64 (by omega)).symm)
      · exact (FA' 769 (by omega)).trans (hE.ip.trans (FC' 65 (by omega)).symm)
      · exact (FA' 770 (by omega)).trans (hE.po.trans (FC' 66 (by omega)).symm)
      · exact (FA' 771 (by omega)).trans (hE.is.trans (FC' 67 (by omega)).symm)
      · exact (FA' 772 (by omega)).trans (hE.una.trans (FC' 68 (by omega)).symm)
      · exact (FA' 773 (by omega)).trans (hE.at'.trans (FC' 69 (by omega)).symm)
      · exact (FA' 774 (by omega)).trans (hE.max.trans (FC' 70 (by omega)).symm)
      · exact (FA' 775 (by omega)).trans (hE.wi.trans (FC' 71 (by omega)).symm)
      · exact (FA' 776 (by omega)).trans (hE.w1.trans (FC' 82 (by omega)).symm)
      · exact (FA' 777 (by omega)).trans (hE.w2.trans (FC' 83 (by omega)).symm)
      · exact (FA' 794 (by omega)).trans (hE.hl.trans (FC' 78 (by omega)).symm)
      · exact (FA' 796 (by omega)).trans (hE.bl.trans (FC' 76 (by omega)).symm)
      · rw [FA' 796 (by omega), FA' 795 (by omega), FC' 75 (by omega)]; exact hE.bp
      · exact (FA' 797 (by omega)).trans (hE.bg.trans (FC' 77 (by omega)).symm)
      · exact (FA' 798 (by omega)).trans (hE.cl.trans (FC' 74 (by omega)).symm)
      · rw [FA' 768 (by omega), FA' 812 (by omega), FC' 73 (by omega)]; exact hE.la
      · rw [FA' 768 (by omega), FA' 813 (by omega), FC' 72 (by omega)]; exact hE.li
      · rw [FA' 794 (by omega), hdA, hdM]; exact hE.hd
    · have hP := h.cp
      refine CP.mk ?_ ?_ ?_ ?_ ?_ ?_ ?_ ?_ ?_ ?_ ?_ ?_
      · exact (FA' 778 (by omega)).trans (hP.ms.trans (FP' 320 (by omega)).symm)
      · exact (FA' 779 (by omega)).trans (hP.cw.trans (FP' 321 (by omega)).symm)
      · exact (FA' 780 (by omega)).trans (hP.ss.trans (FP' 322 (by omega)).symm)
      · exact (FA' 781 (by omega)).trans (hP.ro.trans (FP' 323 (by omega)).symm)
      · exact (FA' 791 (by omega)).trans (hP.tr.trans (FP' 325 (by omega)).symm)
      · exact (FA' 792 (by omega)).trans (hP.du.trans (FP' 326 (by omega)).symm)
      · exact (FA' 786 (by omega)).trans (hP.re.trans (FP' 327 (by omega)).symm)
      · exact (FA' 785 (by omega)).trans (hP.ti.trans (FP' 328 (by omega)).symm)
      · rw [FA' 785 (by omega), FA' 787 (by omega), FA' 788 (by omega), FP' 329 (by omega), FP' 330 (by omega)]; exact hP.tn
      · exact (FA' 784 (by omega)).trans (hP.me.trans (FP' 331 (by omega)).symm)
      · rw [FA' 784 (by omega), FA' 782 (by omega), FA' 783 (by omega), FP' 332 (by omega), FP' 333 (by omega)]; exact hP.sv
      · rw [FA' 789 (by omega), FA' 790 (by omega), FP' 324 (by omega)]; exact hP.tm
    · have hI := h.ci
      refine CI.mk ?_ ?_ ?_ ?_ ?_ ?_ ?_ ?_ ?_ ?_ ?_ ?_ ?_ ?_ ?_ ?_ ?_ ?_ ?_ ?_ ?_ ?_ ?_ ?_ ?_ ?_ ?_ ?_ ?_ ?_ ?_ ?_ ?_ ?_ ?_ ?_
      · exact (FA' 797 (by omega)).trans hI.bg
      · exact (FA' 772 (by omega)).trans hI.una
      · exact (FA' 773 (by omega)).trans hI.at'
      · exact (FA' 774 (by omega)).trans hI.max
      · exact hI.ua
      · exact hI.am
      · exact hI.mL
      · exact (FA' 794 (by omega)).trans hI.hl
      · exact hI.hl1
      · exact (FA' 796 (by omega)).trans hI.bl
      · exact hI.bl1
      · rw [FA' 795 (by omega)]; exact hI.bp
      · exact (FA' 798 (by omega)).trans hI.cl
      · exact hI.cl1
      · exact (FA' 799 (by omega)).trans hI.fn
      · exact hI.fn1
      · exact hI.fnI
      · exact (FA' 778 (by omega)).trans hI.ms
      · exact hI.ms1
      · exact (FA' 779 (by omega)).trans hI.cw
      · exact hI.cw1
      · exact (FA' 780 (by omega)).trans hI.ss
      · exact hI.ss1
      · exact (FA' 781 (by omega)).trans hI.ro
      · exact hI.ro1
      · exact (FA' 775 (by omega)).trans hI.wi
      · exact hI.wi1
      · exact (FA' 789 (by omega)).trans hI.on
      · exact hI.on1
      · rw [FA' 790 (by omega)]; exact hI.tm
      · exact (FA' 785 (by omega)).trans hI.ti
      · exact hI.ti1
      · rw [FA' 787 (by omega), FA' 788 (by omega)]; exact hI.tn
      · exact (FA' 784 (by omega)).trans hI.me
      · exact hI.me1
      · rw [FA' 782 (by omega), FA' 783 (by omega)]; exact hI.sv
    · have hS := h.cs
      refine CS.mk ?_ ?_ ?_ ?_ ?_ ?_ ?_ ?_ ?_
      · exact (FA' 768 (by omega)).trans hS.st
      · exact hS.st1
      · rw [FA' 771 (by omega), FA' 786 (by omega)]; exact hS.s1
      · exact hS.sN1
      · exact hS.s27
      · exact hS.s358
      · exact hS.s46
      · rw [FA' 812 (by omega)]; exact hS.la
      · rw [FA' 813 (by omega)]; exact hS.si
    · have rows : ∀ j, j < hd - n → tkR (mA A (344 + 4 * k)) n 4096 j = mA M (c + 3) (slot ((mF A 803 (342 + 4 * k)) + nI n + nI j)) := fun j hj => by
        unfold tkR
        rw [if_pos (by omega), Int32.add_assoc, nI_add, Nat.add_comm n j]
        exact hr.rw (j + n) (by omega)
      refine CR.mk ?_ ?_ ?_ ?_ ?_ ?_ ?_ ?_ ?_ ?_ ?_ ?_ ?_ ?_ ?_ ?_ ?_ ?_ ?_
      · rw [rd', rdx]
      · exact (FA' 804 (by omega)).trans (hr.nx.trans (FR' 1 (by omega)).symm)
      · exact (FA' 805 (by omega)).trans (hr.to.trans (FR' 2 (by omega)).symm)
      · exact (FA' 806 (by omega)).trans (hr.lv.trans (FR' 3 (by omega)).symm)
      · exact ow
      · exact (FA' 808 (by omega)).trans (hr.fk.trans (FR' 7 (by omega)).symm)
      · exact (FA' 809 (by omega)).trans (hr.fT.trans (FR' 8 (by omega)).symm)
      · rw [FA' 808 (by omega), FA' 810 (by omega), FR' 9 (by omega)]; exact hr.fq
      · exact (FA' 809 (by omega)).trans hr.ftN
      · exact hr.ft1
      · rw [FA' 804 (by omega), rd', hr.nxN, Int32.add_assoc, nI_add]; congr 2; omega
      · omega
      · rw [FA' 806 (by omega)]; exact hr.lvN
      · rw [FA' 805 (by omega)]; exact hr.toN
      · rw [g4, a1R, y4, mM.2.2.2, rd']; exact rows
      · rw [FA' 768 (by omega)]; exact hr.st
      · rw [g4, a1T, a1R, y4, mM.2.2.2, rd']; exact fun e => (RT_take ⟨hr.rw, hr.th e⟩ hn hd1).2
      · exact fun e q => by rw [g4, a1T]; unfold tkT; rw [if_pos q]; refine if_neg (fun z => z.2 ?_); rw [show hd - n + n = hd by omega]; exact hr.stp e (by omega)
      · rw [FA' 808 (by omega), FA' 804 (by omega), FA' 810 (by omega)]; exact hr.fnx
  have rows : ∀ A', mA A' = mA A1 → ∀ j, j + n < 4096 → mA A' (344 + 4 * k) j = mA A (344 + 4 * k) (j + n) := fun A' g4 j hj => by
    rw [g4, a1R]
    unfold tkR
    rw [if_pos ⟨by omega, hj⟩]
  have mM : mS M1 = mS M ∧ mG M1 = mG M ∧ mB M1 = mB M ∧ mA M1 = mA M := by subst hM1; exact ⟨rfl, rfl, rfl, rfl⟩
  by_cases q : nI (4096 - (hd - n)) - (mF A 805 (342 + 4 * k)) < (2048 : Int32)
  · have q' : nI (4096 - (hd - n)) - (mF A 805 (342 + 4 * k)) < (2048 : Int32) := q
    rw [if_pos q] at hm hx
    obtain ⟨w1, w2, w3⟩ := main A1 M1 hm hx rfl rfl rfl rfl (fun _ _ _ => rfl) rfl rfl rfl rfl (fun _ _ _ => rfl) (by rw [F1 _ _ (by omega), X1 _ _ (by omega)]; exact hr.ow)
    exact ⟨A1, M1, hm, hx, w1, w2, w3, fun f hf => F1 f _ (by omega), fun f a hh => X1 f a (fun e => hh ⟨Or.inl e.1, e.2⟩), mM.2.2.2, r1, rows A1 rfl, mM.1, mM.2.1, mM.2.2.1, by rw [if_pos q]; exact F1 _ _ (by omega), fun f a hh => F1 f a (fun e => hh ⟨Or.inl e.1, e.2⟩), a1o, s1.1, s1.2.1, s1.2.2⟩
  · rw [if_neg q] at hm hx
    obtain ⟨w1, w2, w3⟩ := main _ _ hm hx rfl rfl rfl rfl (fun f a hh => by rw [mF_sF, if_neg hh]) rfl rfl rfl rfl (fun f a hh => by rw [mF_sF, if_neg hh]) (by rw [mF_sF, if_pos ⟨rfl, rfl⟩, mF_sF, if_pos ⟨rfl, rfl⟩])
    exact ⟨_, _, hm, hx, w1, w2, w3, fun f hf => by rw [mF_sF, if_neg (by omega)]; exact F1 f _ (by omega), fun f a hh => by rw [mF_sF, if_neg (fun e => hh ⟨Or.inr e.1, e.2⟩)]; exact X1 f a (fun e => hh ⟨Or.inl e.1, e.2⟩), mM.2.2.2, by rw [mF_sF, if_neg (by omega)]; exact r1, rows _ rfl, mM.1, mM.2.1, mM.2.2.1, by rw [if_neg q, mF_sF, if_pos ⟨rfl, rfl⟩], fun f a hh => by rw [mF_sF, if_neg (fun e => hh ⟨Or.inr e.1, e.2⟩)]; exact F1 f a (fun e => hh ⟨Or.inl e.1, e.2⟩), a1o, s1.1, s1.2.1, s1.2.2⟩
end Skip
