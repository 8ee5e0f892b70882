/-! ===== part 98c: bodies that are left out, empty lines, in both ===== -/
theorem Mm_ext {M N : Mm} (h1 : mF M = mF N) (h2 : mG M = mG N) (h3 : mA M = mA N) (h4 : mB M = mB N) (h5 : mS M = mS N) : M = N := by
  obtain ⟨a1, a2, a3, a4, a5⟩ := M
  obtain ⟨b1, b2, b3, b4, b5⟩ := N
  have e1 : a1 = b1 := h1
  have e2 : a2 = b2 := h2
  have e3 : a3 = b3 := h3
  have e4 : a4 = b4 := h4
  have e5 : a5 = b5 := h5
  rw [e1, e2, e3, e4, e5]
section Empty
variable {A A' M M' : Mm}
/-- part of a body is left out, in both -/
theorem sp_skip (fu : Nat) (hfu : 5000 ≤ fu) {KN KS t T k c nw im ig hd ft : Nat} {b0 : Int32} {v : Nat → Nat} (h : TK A M KN KS t T im ig k c nw hd ft b0 v) (hk : k < 16) :
    ∃ A' M' hd' l', (∀ {β : Type} (K : Mm → Option β), ((gI A 12 806 (some (342 + 4 * k))).bind fun v1 => (rc A 12 (some (342 + 4 * k))).bind fun q2 => b2 (fX12_held fu q2 A) fun v4 M3 => if (jmin v1 v4) ≤ 0 then K M3 else (gI M3 12 806 (some (342 + 4 * k))).bind fun v5 => (pF M3 12 806 (some (342 + 4 * k)) (v5 - (jmin v1 v4))).bind fun M6 => (rc M6 16 (some 323)).bind fun q7 => (fX16_take fu q7 (some (342 + 4 * k)) (jmin v1 v4) M6).bind fun M8 => K M8) = K A') ∧ fX0_leaveBody fu (c + 2) M = some M' ∧ TK A' M' KN KS t T im ig k c nw hd' ft b0 v ∧ FCA k A A' ∧ FCM c M M' ∧ (mF A' 806 (342 + 4 * k)) = nI l' ∧ l' ≤ 65536 ∧ (l' = 0 ∨ hd' = 0) ∧ hd' ≤ hd ∧ (∀ f, ¬ (f = 803 ∨ f = 806 ∨ f = 807) → mF A' f (342 + 4 * k) = mF A f (342 + 4 * k)) ∧ (∀ f a, ¬ ((f = 803 ∨ f = 806 ∨ f = 807) ∧ a = 342 + 4 * k) → mF A' f a = mF A f a) ∧ (∀ a, a ≠ 344 + 4 * k → a ≠ 345 + 4 * k → mA A' a = mA A a) ∧ mA M' = mA M := by
  have hR := h.rw'
  have hA := rw_cnO hR k hk
  have hr := h.cr
  have hC := h.cn
  have c7 := hC.2.2.2.2.2.2.1
  obtain ⟨l, hl1, hl2⟩ := hr.lvN
  have hd1 := hr.hd1
  have eh := hldA_nI hr
  have em : jmin (nI l) (nI hd) = nI (min l hd) := jmin_nI (by omega) (by omega)
  unfold fX0_leaveBody
  simp only [gI_ok hA, ob_some, rc_ok hA, m_held hR hk, b2_some, eh, hl2, em, gI_ok c7, rc_ok c7, x_held c7, ← hldX_eq hr, ← hr.lv]
  by_cases q : min l hd = 0
  · rw [q]
    simp only [show (nI 0 : Int32) ≤ 0 from by decide, if_true]
    exact ⟨A, M, hd, l, fun _ => rfl, rfl, h, FB.rf, FM.rf, hl2, hl1, by omega, Nat.le_refl _, fun _ _ => rfl, fun _ _ _ => rfl, fun _ _ _ => rfl, rfl⟩
  · have q' : ¬ nI (min l hd) ≤ 0 := nI_nle (by omega) (by omega)
    simp only [if_neg q', nI_sub (show min l hd ≤ l by omega), pF_ok hA, ob_some, pF_ok c7]
    have FA' : ∀ g, ¬ g = 806 → mF (sF A 806 (342 + 4 * k) (nI (l - min l hd))) g (342 + 4 * k) = mF A g (342 + 4 * k) := fun g hg => by rw [mF_sF, if_neg (fun e => hg e.1)]
    have FC' : ∀ g, ¬ 100000 ≤ g → mF (sF M 3 (c + 2) (nI (l - min l hd))) g c = mF M g c := fun g _ => by rw [mF_sF, if_neg (by omega)]
    have FR' : ∀ g, ¬ g = 3 → mF (sF M 3 (c + 2) (nI (l - min l hd))) g (c + 2) = mF M g (c + 2) := fun g hg => by rw [mF_sF, if_neg (fun e => hg e.1)]
    have FP' : ∀ g, ¬ 100000 ≤ g → mF (sF M 3 (c + 2) (nI (l - min l hd))) g (c + 5) = mF M g (c + 5) := fun g _ => by rw [mF_sF, if_neg (by omega)]
    have hdA : mA (sF A 806 (342 + 4 * k) (nI (l - min l hd))) (343 + 4 * k) = mA A (343 + 4 * k) := rfl
    have hdM : mA (sF M 3 (c + 2) (nI (l - min l hd))) (c + 1) = mA M (c + 1) := rfl
    obtain ⟨z1, z2, z3⟩ := TB_upd (k := k) (A' := sF A 806 (342 + 4 * k) (nI (l - min l hd))) (M' := sF M 3 (c + 2) (nI (l - min l hd))) (u := 0) h.tb h.t1000 rfl rfl rfl rfl (fun f a hh => by rw [mF_sF, if_neg (by omega)]) rfl rfl rfl rfl (fun f a _ g2 _ => by rw [mF_sF, if_neg (fun e => g2 e.2)])
    have hE := h.ce
    have hP := h.cp
    have hI := h.ci
    have hS := h.cs
    have e06 : mF (sF A 806 (342 + 4 * k) (nI (l - min l hd))) 806 (342 + 4 * k) = nI (l - min l hd) := by rw [mF_sF, if_pos ⟨rfl, rfl⟩]
    have hT : TK (sF A 806 (342 + 4 * k) (nI (l - min l hd))) (sF M 3 (c + 2) (nI (l - min l hd))) KN KS t T im ig k c nw hd ft b0 v := by
      refine z1.tk ?_ ?_ ?_ ?_ ?_
      · refine CE.mk ?_ ?_ ?_ ?_ ?_ ?_ ?_ ?_ ?_ ?_ ?_ ?_ ?_ ?_ ?_ ?_ ?_ ?_
        · exact (FA' 768 (by omega)).trans (hE.st.trans (FC' 64 (by omega)).symm)
        · exact (FA' 769 (by omega)).trans (hE.ip.trans (FC' 65 (by omega)).symm)
        · exact (FA' 770 (by omega)).trans (hE.po.trans (FC' 66 (by omega)).symm)
        · exact (FA' 771 (by omega)).trans (hE.is.trans (FC' 67 (by omega)).symm)
        · exact (FA' 772 (by omega)).trans (hE.una.trans (FC' 68 (by omega)).symm)
        · exact (FA' 773 (by omega)).trans (hE.at'.trans (FC' 69 (by omega)).symm)
        · exact (FA' 774 (by omega)).trans (hE.max.trans (FC' 70 (by omega)).symm)
        · exact (FA' 775 (by omega)).trans (hE.wi.trans (FC' 71 (by omega)).symm)
        · exact (FA' 776 (by omega)).trans (hE.w1.trans (FC' 82 (by omega)).symm)
        · exact (FA' 777 (by omega)).trans (hE.w2.trans (FC' 83 (by omega)).symm)
        · exact (FA' 794 (by omega)).trans (hE.hl.trans (FC' 78 (by omega)).symm)
        · exact (FA' 796 (by omega)).trans (hE.bl.trans (FC' 76 (by omega)).symm)
        · rw [FA' 796 (by omega), FA' 795 (by omega), FC' 75 (by omega)]; exact hE.bp
        · exact (FA' 797 (by omega)).trans (hE.bg.trans (FC' 77 (by omega)).symm)
        · exact (FA' 798 (by omega)).trans (hE.cl.trans (FC' 74 (by omega)).symm)
        · rw [FA' 768 (by omega), FA' 812 (by omega), FC' 73 (by omega)]; exact hE.la
        · rw [FA' 768 (by omega), FA' 813 (by omega), FC' 72 (by omega)]; exact hE.li
        · rw [FA' 794 (by omega), hdA, hdM]; exact hE.hd
      · refine CP.mk ?_ ?_ ?_ ?_ ?_ ?_ ?_ ?_ ?_ ?_ ?_ ?_
        · exact (FA' 778 (by omega)).trans (hP.ms.trans (FP' 320 (by omega)).symm)
        · exact (FA' 779 (by omega)).trans (hP.cw.trans (FP' 321 (by omega)).symm)
        · exact (FA' 780 (by omega)).trans (hP.ss.trans (FP' 322 (by omega)).symm)
        · exact (FA' 781 (by omega)).trans (hP.ro.trans (FP' 323 (by omega)).symm)
        · exact (FA' 791 (by omega)).trans (hP.tr.trans (FP' 325 (by omega)).symm)
        · exact (FA' 792 (by omega)).trans (hP.du.trans (FP' 326 (by omega)).symm)
        · exact (FA' 786 (by omega)).trans (hP.re.trans (FP' 327 (by omega)).symm)
        · exact (FA' 785 (by omega)).trans (hP.ti.trans (FP' 328 (by omega)).symm)
        · rw [FA' 785 (by omega), FA' 787 (by omega), FA' 788 (by omega), FP' 329 (by omega), FP' 330 (by omega)]; exact hP.tn
        · exact (FA' 784 (by omega)).trans (hP.me.trans (FP' 331 (by omega)).symm)
        · rw [FA' 784 (by omega), FA' 782 (by omega), FA' 783 (by omega), FP' 332 (by omega), FP' 333 (by omega)]; exact hP.sv
        · rw [FA' 789 (by omega), FA' 790 (by omega), FP' 324 (by omega)]; exact hP.tm
      · refine CI.mk ?_ ?_ ?_ ?_ ?_ ?_ ?_ ?_ ?_ ?_ ?_ ?_ ?_ ?_ ?_ ?_ ?_ ?_ ?_ ?_ ?_ ?_ ?_ ?_ ?_ ?_ ?_ ?_ ?_ ?_ ?_ ?_ ?_ ?_ ?_ ?_
        · exact (FA' 797 (by omega)).trans hI.bg
        · exact (FA' 772 (by omega)).trans hI.una
        · exact (FA' 773 (by omega)).trans hI.at'
        · exact (FA' 774 (by omega)).trans hI.max
        · exact hI.ua
        · exact hI.am
        · exact hI.mL
        · exact (FA' 794 (by omega)).trans hI.hl
        · exact hI.hl1
        · exact (FA' 796 (by omega)).trans hI.bl
        · exact hI.bl1
        · rw [FA' 795 (by omega)]; exact hI.bp
        · exact (FA' 798 (by omega)).trans hI.cl
        · exact hI.cl1
        · exact (FA' 799 (by omega)).trans hI.fn
        · exact hI.fn1
        · exact hI.fnI
        · exact (FA' 778 (by omega)).trans hI.ms
        · exact hI.ms1
        · exact (FA' 779 (by omega)).trans hI.cw
        · exact hI.cw1
        · exact (FA' 780 (by omega)).trans hI.ss
        · exact hI.ss1
        · exact (FA' 781 (by omega)).trans hI.ro
        · exact hI.ro1
        · exact (FA' 775 (by omega)).trans hI.wi
        · exact hI.wi1
        · exact (FA' 789 (by omega)).trans hI.on
        · exact hI.on1
        · rw [FA' 790 (by omega)]; exact hI.tm
        · exact (FA' 785 (by omega)).trans hI.ti
        · exact hI.ti1
        · rw [FA' 787 (by omega), FA' 788 (by omega)]; exact hI.tn
        · exact (FA' 784 (by omega)).trans hI.me
        · exact hI.me1
        · rw [FA' 782 (by omega), FA' 783 (by omega)]; exact hI.sv
      · refine CS.mk ?_ ?_ ?_ ?_ ?_ ?_ ?_ ?_ ?_
        · exact (FA' 768 (by omega)).trans hS.st
        · exact hS.st1
        · rw [FA' 771 (by omega), FA' 786 (by omega)]; exact hS.s1
        · exact hS.sN1
        · exact hS.s27
        · exact hS.s358
        · exact hS.s46
        · rw [FA' 812 (by omega)]; exact hS.la
        · rw [FA' 813 (by omega)]; exact hS.si
      · refine CR.mk ?_ ?_ ?_ ?_ ?_ ?_ ?_ ?_ ?_ ?_ ?_ ?_ ?_ ?_ ?_ ?_ ?_ ?_ ?_
        · exact (FA' 803 (by omega)).trans (hr.rd.trans (FR' 0 (by omega)).symm)
        · exact (FA' 804 (by omega)).trans (hr.nx.trans (FR' 1 (by omega)).symm)
        · exact (FA' 805 (by omega)).trans (hr.to.trans (FR' 2 (by omega)).symm)
        · rw [e06, mF_sF, if_pos ⟨rfl, rfl⟩]
        · exact (FA' 807 (by omega)).trans (hr.ow.trans (FR' 4 (by omega)).symm)
        · exact (FA' 808 (by omega)).trans (hr.fk.trans (FR' 7 (by omega)).symm)
        · exact (FA' 809 (by omega)).trans (hr.fT.trans (FR' 8 (by omega)).symm)
        · rw [FA' 808 (by omega), FA' 810 (by omega), FR' 9 (by omega)]; exact hr.fq
        · exact (FA' 809 (by omega)).trans hr.ftN
        · exact hr.ft1
        · rw [FA' 804 (by omega), FA' 803 (by omega)]; exact hr.nxN
        · exact hr.hd1
        · exact ⟨l - min l hd, by omega, e06⟩
        · rw [FA' 805 (by omega)]; exact hr.toN
        · exact hr.rw
        · rw [FA' 768 (by omega)]; exact hr.st
        · exact hr.th
        · exact hr.stp
        · rw [FA' 808 (by omega), FA' 804 (by omega), FA' 810 (by omega)]; exact hr.fnx
    obtain ⟨A', M', s1, s2, s3, s4, s5, s6, s7, s8, s9, s10, s11, s12, s13, s14, s15, s16, s17⟩ := sp_take fu hfu hT hk (n := min l hd) (by omega)
    refine ⟨A', M', hd - min l hd, l - min l hd, fun K => ?_, ?_, s3, z2.tr s4, z3.tr s5, (s6 _ (by omega)).trans e06, by omega, by omega, by omega, fun f hf => (s6 f (by omega)).trans (FA' f (by omega)), fun f a hh => (s15 f a (fun e => hh ⟨by omega, e.2⟩)).trans (by rw [mF_sF, if_neg (fun e => hh ⟨by omega, e.2⟩)]), fun a g1 g2 => s16 a g1 g2, s8⟩
    · rw [rc_ok (by rw [ok_sF]; exact rw_ok323 hR), ob_some, s1, ob_some]
    · rw [rc_ok (by rw [ok_sF]; exact c7), ob_some, s2, ob_some]
/-- the first bytes, in both -/
theorem m_byteAt (fu : Nat) {KN KS t T k c nw im ig hd ft : Nat} {b0 : Int32} {v : Nat → Nat} (h : TK A M KN KS t T im ig k c nw hd ft b0 v) (hk : k < 16) {i : Nat} (hi : i < 4096) : fX16_byteAt fu (some (342 + 4 * k)) (nI i) A = some (if i < hd then u8 (mA A (344 + 4 * k) i) else -1, A) := by
  have hR := h.rw'
  have hA := rw_cnO hR k hk
  have hd1 := h.cr.hd1
  unfold fX16_byteAt
  rw [rc_ok hA, ob_some, m_held hR hk, b2_some, hldA_nI h.cr]
  by_cases q : i < hd
  · rw [if_neg (nI_ge q (by omega)), if_pos q, gR_ok hA, ob_some, rw_cnRg hR k hk, gA_ok (rw_cnR hR k hk) (by rw [rw_cnRl hR k hk]; omega) (by omega), ob_some]
  · rw [if_pos (nI_le (by omega) (by omega)), if_neg q]
theorem x_peek (fu : Nat) {KN KS t T k c nw im ig hd ft : Nat} {b0 : Int32} {v : Nat → Nat} (h : TK A M KN KS t T im ig k c nw hd ft b0 v) {i : Nat} (hi : i < hd) : fX0_peek fu (c + 2) (nI i) M = some (u8 (mA A (344 + 4 * k) i), M) := by
  have hC := h.cn
  obtain ⟨c1, c2, c3, c4, c5, c6, c7, c8, c9, c10, c11, c12, c13, c14⟩ := hC
  have hr := h.cr
  have hs := slot_lt ((mF A 803 (342 + 4 * k)) + nI i)
  unfold fX0_peek
  rw [gR_ok c7, ob_some, c8, gI_ok c7, ob_some, ← hr.rd, and4095, gA_ok c10 (by rw [c11]; omega) (by omega), ob_some, hr.rw i hi]
/-- what a leaving of n bytes writes in the class -/
abbrev lvC (hd n w : Nat) : Prop := nI (4096 - (hd - n)) - nI w < (2048 : Int32)
theorem lvC_mono {hd n n' w : Nat} (h1 : n ≤ n') (h2 : n' ≤ hd) (h3 : hd ≤ 4096) (hw : w ≤ 4096) (h : lvC hd n' w) : lvC hd n w := by
  unfold lvC at *
  have e : ∀ m, m ≤ hd → (nI (4096 - (hd - m)) - nI w).toInt = ((4096 - (hd - m) : Nat) : Int) - w := fun m hm => pk_sub_toInt (by omega) (by omega)
  rw [Int32.lt_iff_toInt_lt] at *
  rw [e n (by omega)]
  rw [e n' (by omega)] at h
  have : (2048 : Int32).toInt = 2048 := by decide
  rw [this] at h ⊢
  omega
/-- the class's memory with i bytes left at once -/
def LVM (M : Mm) (c : Nat) (rd : Int32) (hd w i : Nat) : Mm := if i = 0 then M else if lvC hd i w then sF M 0 (c + 2) (rd + nI i) else sF (sF M 0 (c + 2) (rd + nI i)) 4 (c + 2) 1
theorem LVM_o {c hd w i : Nat} {rd : Int32} : mS (LVM M c rd hd w i) = mS M ∧ mG (LVM M c rd hd w i) = mG M ∧ mB (LVM M c rd hd w i) = mB M ∧ mA (LVM M c rd hd w i) = mA M ∧ (∀ f a, ¬ ((f = 0 ∨ f = 4) ∧ a = c + 2) → mF (LVM M c rd hd w i) f a = mF M f a) := by
  unfold LVM
  by_cases q : i = 0
  · rw [if_pos q]; exact ⟨rfl, rfl, rfl, rfl, fun _ _ _ => rfl⟩
  · rw [if_neg q]
    by_cases q2 : lvC hd i w
    · rw [if_pos q2]; exact ⟨rfl, rfl, rfl, rfl, fun f a hh => by rw [mF_sF, if_neg (fun e => hh ⟨Or.inl e.1, e.2⟩)]⟩
    · rw [if_neg q2]; exact ⟨rfl, rfl, rfl, rfl, fun f a hh => by rw [mF_sF, if_neg (fun e => hh ⟨Or.inr e.1, e.2⟩), mF_sF, if_neg (fun e => hh ⟨Or.inl e.1, e.2⟩)]⟩
theorem LVM_04 {c hd w i : Nat} {rd : Int32} (h0 : (mF M 0 (c + 2)) = rd) : mF (LVM M c rd hd w i) 0 (c + 2) = rd + nI i ∧ mF (LVM M c rd hd w i) 4 (c + 2) = (if i = 0 then (mF M 4 (c + 2)) else if lvC hd i w then (mF M 4 (c + 2)) else 1) := by
  unfold LVM
  by_cases q : i = 0
  · rw [if_pos q, if_pos q, q, show nI 0 = 0 from rfl, Int32.add_zero]; exact ⟨h0, rfl⟩
  · rw [if_neg q, if_neg q]
    by_cases q2 : lvC hd i w
    · rw [if_pos q2, if_pos q2]
      simp only [mF_sF, reduceIte, Nat.reduceEqDiff, Nat.reduceAdd, Nat.reduceMul, Nat.reduceLT, Nat.reduceLeDiff, and_true, true_and, and_false, false_and, and_self, ne_eq, not_true_eq_false, not_false_eq_true, Option.some.injEq, reduceCtorEq]
    · rw [if_neg q2, if_neg q2]
      simp only [mF_sF, reduceIte, Nat.reduceEqDiff, Nat.reduceAdd, Nat.reduceMul, Nat.reduceLT, Nat.reduceLeDiff, and_true, true_and, and_false, false_and, and_self, ne_eq, not_true_eq_false, not_false_eq_true, Option.some.injEq, reduceCtorEq]
/-- a further taking out, over what was left at once -/
theorem sp_takeL (fu : Nat) (hfu : 5000 ≤ fu) {KN KS t T k c nw im ig hd ft i n w : Nat} {b0 rd : Int32} {v : Nat → Nat} (h : TK A (LVM M c rd hd w i) KN KS t T im ig k c nw (hd - i) ft b0 v) (hk : k < 16) (hin : i + n ≤ hd) (hn : 0 < n) (hd1 : hd ≤ 4096) (h0 : (mF M 0 (c + 2)) = rd) (hw : (mF A 805 (342 + 4 * k)) = nI w) (hw1 : w ≤ 4096) :
    ∃ A', fX16_take fu 323 (some (342 + 4 * k)) (nI n) A = some A' ∧ TK A' (LVM M c rd hd w (i + n)) KN KS t T im ig k c nw (hd - (i + n)) ft b0 v ∧ FCA k A A' ∧ (∀ f a, ¬ ((f = 803 ∨ f = 807) ∧ a = 342 + 4 * k) → mF A' f a = mF A f a) ∧ (∀ a, a ≠ 344 + 4 * k → a ≠ 345 + 4 * k → mA A' a = mA A a) ∧ (∀ j, j + n < 4096 → mA A' (344 + 4 * k) j = mA A (344 + 4 * k) (j + n)) := by
  obtain ⟨A', N, s1, s2, s3, s4, s5, s6, s7, s8, s9, s10, s11, s12, s13, s14, s15, s16, s17⟩ := sp_take fu hfu h hk (n := n) (by omega)
  have hr := h.cr
  have hr' := s3.cr
  obtain ⟨o1, o2, o3, o4, o5⟩ := LVM_o (M := M) (c := c) (hd := hd) (w := w) (i := i) (rd := rd)
  obtain ⟨p1, p2, p3, p4, p5⟩ := LVM_o (M := M) (c := c) (hd := hd) (w := w) (i := i + n) (rd := rd)
  obtain ⟨q1, q2⟩ := LVM_04 (M := M) (c := c) (hd := hd) (w := w) (i := i) h0
  obtain ⟨u1, u2⟩ := LVM_04 (M := M) (c := c) (hd := hd) (w := w) (i := i + n) h0
  have eN : N = LVM M c rd hd w (i + n) := by
    refine Mm_ext ?_ ?_ ?_ ?_ ?_
    · funext f a
      by_cases e0 : f = 0 ∧ a = c + 2
      · obtain ⟨e1, e2⟩ := e0
        subst e1 e2
        rw [u1, ← hr'.rd, s9, hr.rd, q1, Int32.add_assoc, nI_add]
      · by_cases e4 : f = 4 ∧ a = c + 2
        · obtain ⟨e1, e2⟩ := e4
          subst e1 e2
          rw [u2, ← hr'.ow, s14, hr.ow, q2, hw, if_neg (show ¬ i + n = 0 by omega), show hd - i - n = hd - (i + n) by omega]
          by_cases y : lvC hd (i + n) w
          · rw [if_pos y, if_pos y]
            by_cases z : i = 0
            · rw [if_pos z]
            · rw [if_neg z, if_pos (lvC_mono (by omega) hin hd1 hw1 y)]
          · rw [if_neg y, if_neg y]
        · have hh : ¬ ((f = 0 ∨ f = 4) ∧ a = c + 2) := fun e => by
            rcases e with ⟨e | e, e2⟩
            · exact e0 ⟨e, e2⟩
            · exact e4 ⟨e, e2⟩
          rw [s7 f a hh, o5 f a hh, p5 f a hh]
    · rw [s12, o2, p2]
    · rw [s8, o4, p4]
    · rw [s13, o3, p3]
    · rw [s11, o1, p1]
  rw [eN, show hd - i - n = hd - (i + n) by omega] at s3
  exact ⟨A', s1, s3, s4, s15, s16, s10⟩
theorem sp_empty (fu : Nat) (hfu : 5000 ≤ fu) {KN KS t T k c nw im ig hd ft w : Nat} {b0 rd : Int32} {v : Nat → Nat} (hk : k < 16) (hd1 : hd ≤ 4096) (h0 : (mF M 0 (c + 2)) = rd) (hw1 : w ≤ 4096) (c7 : okA M 0 (c + 2)) (B : Nat → Int32) (hpk : ∀ i, i < hd → fX0_peek fu (c + 2) (nI i) M = some (B i, M)) :
    ∀ (n i : Nat) (A : Mm) (m m2 : Nat), hd - i ≤ n → i ≤ hd → n ≤ m → n ≤ m2 → TK A (LVM M c rd hd w i) KN KS t T im ig k c nw (hd - i) ft b0 v → (mF A 806 (342 + 4 * k)) = 0 → (mF A 805 (342 + 4 * k)) = nI w → (∀ j, j + i < hd → u8 (mA A (344 + 4 * k) j) = B (j + i)) →
      ∃ A' e, i ≤ e ∧ e ≤ hd ∧ fX16_oneRequest_H fu (m + 1) 323 (some (342 + 4 * k)) A = fX16_oneRequest_L60 fu 323 (some (342 + 4 * k)) A' ∧ fX7_emptyLines_L7 fu (m2 + 1) (some (c + 2)) (nI hd) (nI i) M = some (nI e, M) ∧ TK A' (LVM M c rd hd w e) KN KS t T im ig k c nw (hd - e) ft b0 v ∧ FCA k A A' ∧ (∀ f a, ¬ ((f = 803 ∨ f = 807) ∧ a = 342 + 4 * k) → mF A' f a = mF A f a) ∧ (∀ a, a ≠ 344 + 4 * k → a ≠ 345 + 4 * k → mA A' a = mA A a) ∧ (∀ j, j + e < hd → u8 (mA A' (344 + 4 * k) j) = B (j + e)) ∧ (e < hd → B e ≠ 10) ∧ (e + 1 < hd → ¬ (B e = 13 ∧ B (e + 1) = 10)) := by
  intro n
  induction n with
  | zero =>
    intro i A m m2 h1 h2 h3 h4 hT hl hw hB
    have e : i = hd := by omega
    subst e
    have hA := rw_cnO hT.rw' k hk
    refine ⟨A, i, Nat.le_refl _, Nat.le_refl _, ?_, ?_, hT, FB.rf, fun _ _ _ => rfl, fun _ _ _ => rfl, hB, fun e => by omega, fun e => by omega⟩
    · have b0' : fX16_byteAt fu (some (342 + 4 * k)) (0 : Int32) A = some (-1, A) := by
        have := m_byteAt fu hT hk (i := 0) (by decide)
        rw [if_neg (by omega)] at this
        exact this
      rw [fX16_oneRequest_H, gI_ok hA, ob_some, hl, if_pos rfl, b0', b2_some, if_neg (by decide), b0', b2_some, if_neg (by decide)]
    · rw [fX7_emptyLines_L7, if_pos (nI_le (Nat.le_refl _) (by omega))]
  | succ n ih =>
    intro i A m m2 h1 h2 h3 h4 hT hl hw hB
    have hA := rw_cnO hT.rw' k hk
    have o323 := rw_ok323 hT.rw'
    by_cases ei : i = hd
    · obtain ⟨A', e, r⟩ := ih i A m m2 (by omega) h2 (by omega) (by omega) hT hl hw hB
      exact ⟨A', e, r⟩
    · have hi : i < hd := by omega
      have g1 : ¬ nI hd ≤ nI i := nI_ge hi (by omega)
      have bt0 : fX16_byteAt fu (some (342 + 4 * k)) (0 : Int32) A = some (B i, A) := by
        have := m_byteAt fu hT hk (i := 0) (by decide)
        rw [if_pos (by omega), hB 0 (by omega), Nat.zero_add] at this
        exact this
      have stop : B i ≠ 10 → (i + 1 < hd → ¬ (B i = 13 ∧ B (i + 1) = 10)) → ∃ A' e, i ≤ e ∧ e ≤ hd ∧ fX16_oneRequest_H fu (m + 1) 323 (some (342 + 4 * k)) A = fX16_oneRequest_L60 fu 323 (some (342 + 4 * k)) A' ∧ fX7_emptyLines_L7 fu (m2 + 1) (some (c + 2)) (nI hd) (nI i) M = some (nI e, M) ∧ TK A' (LVM M c rd hd w e) KN KS t T im ig k c nw (hd - e) ft b0 v ∧ FCA k A A' ∧ (∀ f a, ¬ ((f = 803 ∨ f = 807) ∧ a = 342 + 4 * k) → mF A' f a = mF A f a) ∧ (∀ a, a ≠ 344 + 4 * k → a ≠ 345 + 4 * k → mA A' a = mA A a) ∧ (∀ j, j + e < hd → u8 (mA A' (344 + 4 * k) j) = B (j + e)) ∧ (e < hd → B e ≠ 10) ∧ (e + 1 < hd → ¬ (B e = 13 ∧ B (e + 1) = 10)) := fun q1 q2 => by
        refine ⟨A, i, Nat.le_refl _, h2, ?_, ?_, hT, FB.rf, fun _ _ _ => rfl, fun _ _ _ => rfl, hB, fun _ => q1, q2⟩
        · rw [fX16_oneRequest_H, gI_ok hA, ob_some, hl, if_pos rfl, bt0, b2_some, if_neg q1, bt0, b2_some]
          by_cases q3 : B i = 13
          · rw [if_pos q3]
            have b1 : fX16_byteAt fu (some (342 + 4 * k)) (1 : Int32) A = some (if 1 < hd - i then u8 (mA A (344 + 4 * k) 1) else -1, A) := m_byteAt fu hT hk (i := 1) (by decide)
            rw [b1, b2_some, if_neg]
            by_cases q4 : 1 < hd - i
            · rw [if_pos q4, hB 1 (by omega), Nat.add_comm 1 i]
              exact fun e => q2 (by omega) ⟨q3, e⟩
            · rw [if_neg q4]; decide
          · rw [if_neg q3]
        · rw [fX7_emptyLines_L7, if_neg g1, rc_ok c7, ob_some, hpk i hi, b2_some, if_neg q1, rc_ok c7, ob_some, hpk i hi, b2_some]
          by_cases q3 : B i = 13
          · rw [if_pos q3, nI_1]
            by_cases q4 : i + 1 < hd
            · rw [if_neg (nI_ge q4 (by omega)), rc_ok c7, ob_some, hpk _ q4, b2_some, if_neg (fun e => q2 q4 ⟨q3, e⟩)]
            · rw [if_pos (nI_le (by omega) (by omega))]
          · rw [if_neg q3]
      have goOn : ∀ s : Nat, 0 < s → i + s ≤ hd → (fX16_oneRequest_H fu (m + 1) 323 (some (342 + 4 * k)) A = (fX16_take fu 323 (some (342 + 4 * k)) (nI s) A).bind (fun M2 => fX16_oneRequest_H fu m 323 (some (342 + 4 * k)) M2)) → (fX7_emptyLines_L7 fu (m2 + 1) (some (c + 2)) (nI hd) (nI i) M = fX7_emptyLines_L7 fu m2 (some (c + 2)) (nI hd) (nI (i + s)) M) → ∃ A' e, i ≤ e ∧ e ≤ hd ∧ fX16_oneRequest_H fu (m + 1) 323 (some (342 + 4 * k)) A = fX16_oneRequest_L60 fu 323 (some (342 + 4 * k)) A' ∧ fX7_emptyLines_L7 fu (m2 + 1) (some (c + 2)) (nI hd) (nI i) M = some (nI e, M) ∧ TK A' (LVM M c rd hd w e) KN KS t T im ig k c nw (hd - e) ft b0 v ∧ FCA k A A' ∧ (∀ f a, ¬ ((f = 803 ∨ f = 807) ∧ a = 342 + 4 * k) → mF A' f a = mF A f a) ∧ (∀ a, a ≠ 344 + 4 * k → a ≠ 345 + 4 * k → mA A' a = mA A a) ∧ (∀ j, j + e < hd → u8 (mA A' (344 + 4 * k) j) = B (j + e)) ∧ (e < hd → B e ≠ 10) ∧ (e + 1 < hd → ¬ (B e = 13 ∧ B (e + 1) = 10)) := fun s s0 s1 e1 e2 => by
        obtain ⟨A1, t1, t2, t3, t4, t5, t6⟩ := sp_takeL fu hfu hT hk s1 s0 hd1 h0 hw hw1
        obtain ⟨A', e, r1, r2, r3, r4, r5, r6, r7, r8, r9⟩ := ih (i + s) A1 (m - 1) (m2 - 1) (by omega) s1 (by omega) (by omega) t2 ((t4 _ _ (by omega)).trans hl) ((t4 _ _ (by omega)).trans hw) (fun j hj => by rw [t6 j (by omega), hB (j + s) (by omega)]; congr 1; omega)
        rw [show m - 1 + 1 = m by omega] at r3
        rw [show m2 - 1 + 1 = m2 by omega] at r4
        exact ⟨A', e, by omega, r2, by rw [e1, t1, ob_some]; exact r3, e2.trans r4, r5, t3.tr r6, fun f a hh => (r7 f a hh).trans (t4 f a hh), fun a y1 y2 => (r8 a y1 y2).trans (t5 a y1 y2), r9⟩
      by_cases q1 : B i = 10
      · refine goOn 1 (by decide) (by omega) ?_ ?_
        · rw [fX16_oneRequest_H, gI_ok hA, ob_some, hl, if_pos rfl, bt0, b2_some, if_pos q1]
          unfold fX16_oneRequest_L37 fX16_oneRequest_L54
          rw [bt0, b2_some, if_pos q1, rc_ok o323, ob_some]
          rfl
        · rw [fX7_emptyLines_L7, if_neg g1, rc_ok c7, ob_some, hpk i hi, b2_some, if_pos q1, nI_1]
      · by_cases q2 : i + 1 < hd ∧ B i = 13 ∧ B (i + 1) = 10
        · obtain ⟨q3, q4, q5⟩ := q2
          have b1 : fX16_byteAt fu (some (342 + 4 * k)) (1 : Int32) A = some (B (i + 1), A) := by
            have := m_byteAt fu hT hk (i := 1) (by decide)
            rw [if_pos (by omega), hB 1 (by omega), Nat.add_comm 1 i] at this
            exact this
          refine goOn 2 (by decide) (by omega) ?_ ?_
          · rw [fX16_oneRequest_H, gI_ok hA, ob_some, hl, if_pos rfl, bt0, b2_some, if_neg q1, bt0, b2_some, if_pos q4, b1, b2_some, if_pos q5]
            unfold fX16_oneRequest_L37 fX16_oneRequest_L54
            rw [bt0, b2_some, if_neg q1, rc_ok o323, ob_some]
            rfl
          · rw [fX7_emptyLines_L7, if_neg g1, rc_ok c7, ob_some, hpk i hi, b2_some, if_neg q1, rc_ok c7, ob_some, hpk i hi, b2_some, if_pos q4, nI_1, if_neg (nI_ge q3 (by omega)), rc_ok c7, ob_some, hpk _ q3, b2_some, if_pos q5]
            have : nI i + (2 : Int32) = nI (i + 2) := nI_add i 2
            rw [this]
        · exact stop q1 (fun y z => q2 ⟨y, z⟩)
end Empty
