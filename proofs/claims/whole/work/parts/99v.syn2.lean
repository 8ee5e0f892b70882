/-! ===== part 99v: a connection begins, in both ===== -/
section Syn2
variable {A M A' M' : Mm} {KN KS t T im ig F ek ty nw : Nat}
theorem CnO_sg {c : Nat} {X Y : Mm} (s : mS X = mS Y) (g : mG X = mG Y) (h : CnO Y c) : CnO X c := by
  rw [show CnO X c = CnO Y c from by unfold CnO okA; rw [s, g]]
  exact h
theorem XW_sg {X Y : Mm} (s : mS X = mS Y) (g : mG X = mG Y) (h : XW Y) : XW X := by
  rw [show XW X = XW Y from by unfold XW okA; rw [s, g]]
  exact h
theorem bit0 {g : Nat → Int32} (h : ∀ j, j < 128 → g j = 0) (x : Int32) : bitOf g (slot x) = false := by
  unfold bitOf
  have := slot_lt x
  rw [h (slot x / 32) (by omega), b_0]
/-- the class's part up to what came -/
theorem x_begin0 (fu : Nat) {c : Nat} {sn fp sq iss wi : Int32} (hW : XW M) (hC : CnO M c) (e1 : mF M 193 314 = sn) (e2 : mF M 194 314 = fp) (e3 : mF M 196 314 = sq) (e4 : mF M 199 314 = wi) :
    fX1_begin fu c (some 314) iss M = (fX0_begin fu (c + 2) (sq + 1) (bxC M c sn fp sq iss wi)).bind fun M20 => (gR M20 1 81 (some c)).bind fun v21 => (rc M20 3 (some 314)).bind fun q22 => b2 (fX3_mss fu q22 M20) fun v24 M23 => (rc M23 5 v21).bind fun q25 => (fX5_begin fu q25 v24 M23).bind fun M26 => some M26 := by
  have o3 := xw_ok314 hW
  obtain ⟨c1, c2, c3, c4, c5, c6, c7, c8, c9, c10, c11, c12, c13, c14⟩ := hC
  have z0 : ∀ (Y : Mm) f, okA Y 1 c → pZ Y 1 f (some c) (0 : Int32) = some (sF Y f c 0) := fun Y f h => pZ_ok h (Or.inl rfl)
  unfold fX1_begin fX1_clearAnswer
  simp only [pF_ok, z0, gI_ok, gR_ok, rc_ok, ok_sF, c1, o3, c7, c3, ob_some, mF_sF, mG_sF, reduceIte, Nat.reduceEqDiff, Nat.reduceAdd, Nat.reduceMul, Nat.reduceLT, Nat.reduceLeDiff, and_true, true_and, and_false, false_and, and_self, ne_eq, not_true_eq_false, not_false_eq_true, Option.some.injEq, reduceCtorEq, e1, e2, e3, e4]
  rfl
/-- the end of the reference's answer to a first segment -/
theorem m_synAck (fu : Nat) (hfu : 5000 ≤ fu) {k c ms w : Nat} {iss sq sn fp : Int32} (hk : k < 16) (hJ : JL0 KN KS t T A M) (hBA : By A) (hT : T < 2 ^ 30) (hC : CnO M c) (hnw : (mF A 1034 323) = nI nw) (hn2 : nw ≤ 2000000000) (hms : 64 ≤ ms ∧ ms ≤ 1460) (hw : w ≤ 65535)
    (s1 : (mF M 64 c) = 1) (e1 : (mF A 769 (342 + 4 * k)) = (mF M 65 c)) (e2 : (mF A 770 (342 + 4 * k)) = (mF M 66 c)) (e3 : (mF A 804 (342 + 4 * k)) = (mF M 1 (c + 2))) (hA0 : hldA A k = 0) (hX0 : hldX M c = 0) (a71 : (mF A 771 (342 + 4 * k)) = iss) (a72 : (mF A 772 (342 + 4 * k)) = iss) (a73 : (mF A 773 (342 + 4 * k)) = iss) (a74 : (mF A 774 (342 + 4 * k)) = iss) (a75 : (mF A 775 (342 + 4 * k)) = nI w) (a78 : (mF A 778 (342 + 4 * k)) = nI ms) (a79 : (mF A 779 (342 + 4 * k)) = nI (if 1095 < ms then 3 * ms else 4 * ms)) (a80 : (mF A 780 (342 + 4 * k)) = 65535) (a81 : (mF A 781 (342 + 4 * k)) = 1000) (a84 : (mF A 784 (342 + 4 * k)) = 0) (a85 : (mF A 785 (342 + 4 * k)) = 0) (a89 : (mF A 789 (342 + 4 * k)) = 0) (a94 : (mF A 794 (342 + 4 * k)) = 0) (a96 : (mF A 796 (342 + 4 * k)) = 0) (a97 : (mF A 797 (342 + 4 * k)) = iss + 1) (a98 : (mF A 798 (342 + 4 * k)) = 0) (a99 : (mF A 799 (342 + 4 * k)) = 0) :
    ∃ A' M' T', fX16_synAck fu 323 (some (342 + 4 * k)) A = some A' ∧ fX9_sendPlain fu 317 (some c) iss 18 M = some M' ∧ T ≤ T' ∧ T' ≤ T + 1 ∧ JL0 KN KS t T' A' M' ∧ FCA k A A' ∧ FrM (payX M c 18) M' ∧ (∀ a, a < 331 ∨ (334 < a ∧ a < 422) → mA A' a = mA A a) ∧ (∀ g, g < 896 → ¬ (g = 773 ∨ g = 774 ∨ g = 785 ∨ (787 ≤ g ∧ g ≤ 790) ∨ g = 805 ∨ g = 807) → mF A' g (342 + 4 * k) = mF A g (342 + 4 * k)) ∧ (mF A' 773 (342 + 4 * k)) = iss + 1 ∧ (mF A' 774 (342 + 4 * k)) = iss + 1 ∧ (mF A' 785 (342 + 4 * k)) = 1 ∧ (mF A' 787 (342 + 4 * k)) = iss ∧ (mF A' 788 (342 + 4 * k)) = nI nw ∧ (mF A' 789 (342 + 4 * k)) = 1 ∧ (mF A' 790 (342 + 4 * k)) = nI (nw + 1000) ∧ (mF A' 805 (342 + 4 * k)) = 4096 ∧ (mF A' 807 (342 + 4 * k)) = 0 := by
  have hR := hJ.1
  have hA := rw_cnO hR k hk
  obtain ⟨A1, M', T', r1, r2, r3, r4, r5, r6, r7⟩ := sp_sendSyn fu (by omega) hJ hBA hT hC hk e1 e2 e3 (hA0.trans hX0.symm) s1 iss
  have hR1 := r5.1
  have hA1 := rw_cnO hR1 k hk
  have F1 : ∀ g a, g < 896 → mF A1 g a = mF A g a := fun g a hh => r6.2.2.2.1 g a hh
  have eop2 : hldA (sF A1 807 (342 + 4 * k) 0) k = 0 := by
    rw [← hA0]
    unfold hldA
    simp only [mF_sF, reduceIte, Nat.reduceEqDiff, Nat.reduceAdd, Nat.reduceMul, Nat.reduceLT, Nat.reduceLeDiff, and_true, true_and, and_false, false_and, and_self, ne_eq, not_true_eq_false, not_false_eq_true, Option.some.injEq, reduceCtorEq]
    rw [F1 _ _ (by decide), F1 _ _ (by decide), F1 _ _ (by decide)]
  have hpay : fX16_pays fu 323 (some (342 + 4 * k)) A1 = some (sF (sF A1 807 (342 + 4 * k) 0) 805 (342 + 4 * k) 4096) := by
    unfold fX16_pays
    rw [pZ_ok hA1 (Or.inl rfl), ob_some, rc_ok (by rw [ok_sF]; exact hA1), ob_some, m_open (A := sF A1 807 (342 + 4 * k) 0) hR1 hk, b2_some, eop2, pF_ok (by rw [ok_sF]; exact hA1), ob_some]
    rfl
  generalize hA2 : sF (sF A1 807 (342 + 4 * k) 0) 805 (342 + 4 * k) 4096 = A2 at hpay
  have hR2 : RW A2 := by subst hA2; exact hR1
  have ff2 : FF (fun g => g = 805 ∨ g = 807) (342 + 4 * k) A1 A2 := by subst hA2; exact (FF.s _ (by omega)).tr (FF.s _ (by omega))
  have v805 : mF A2 805 (342 + 4 * k) = 4096 := by subst hA2; simp only [mF_sF, reduceIte, Nat.reduceEqDiff, Nat.reduceAdd, Nat.reduceMul, Nat.reduceLT, Nat.reduceLeDiff, and_true, true_and, and_false, false_and, and_self, ne_eq, not_true_eq_false, not_false_eq_true, Option.some.injEq, reduceCtorEq]
  have v807 : mF A2 807 (342 + 4 * k) = 0 := by subst hA2; simp only [mF_sF, reduceIte, Nat.reduceEqDiff, Nat.reduceAdd, Nat.reduceMul, Nat.reduceLT, Nat.reduceLeDiff, and_true, true_and, and_false, false_and, and_self, ne_eq, not_true_eq_false, not_false_eq_true, Option.some.injEq, reduceCtorEq]
  have F2 : ∀ g, g < 896 → ¬ (g = 805 ∨ g = 807) → mF A2 g (342 + 4 * k) = mF A g (342 + 4 * k) := fun g h1 h2 => (ff2.2.2.2.2 g _ (fun e => h2 e.1)).trans (F1 g _ h1)
  have hnw2 : (mF A2 1034 323) = nI nw := by
    rw [ff2.2.2.2.2 _ _ (by omega), r6.2.2.2.2.1 _ _ (by decide) (by decide) (by decide) (by decide)]; exact hnw
  have i0 : iss = iss + nI 0 := (Int32.add_zero iss).symm
  have cwb : 64 ≤ (if 1095 < ms then 3 * ms else 4 * ms) ∧ (if 1095 < ms then 3 * ms else 4 * ms) ≤ 70000 := by split <;> omega
  generalize hcw : (if 1095 < ms then 3 * ms else 4 * ms) = cw at a79 cwb
  have hI : CI A2 k nw t 0 iss (fun i => if i = 0 then 1 else if i = 9 then ms else if i = 10 then cw else if i = 11 then 65535 else if i = 12 then 1000 else if i = 13 then w else 0) := by
    refine CI.mk ((F2 797 (by decide) (by omega)).trans a97) ((F2 772 (by decide) (by omega)).trans (a72.trans i0)) ((F2 773 (by decide) (by omega)).trans (a73.trans i0)) ((F2 774 (by decide) (by omega)).trans (a74.trans i0)) (Nat.le_refl 0) (Nat.le_refl 0) (Nat.zero_le _) ((F2 794 (by decide) (by omega)).trans a94) (Nat.zero_le _) ((F2 796 (by decide) (by omega)).trans a96) (Nat.zero_le _) (fun z => absurd rfl z) ((F2 798 (by decide) (by omega)).trans a98) (Nat.zero_le _) ((F2 799 (by decide) (by omega)).trans a99) (Nat.zero_le _) ?_ ((F2 778 (by decide) (by omega)).trans a78) hms ((F2 779 (by decide) (by omega)).trans a79) cwb ((F2 780 (by decide) (by omega)).trans a80) (show (128 : Nat) ≤ 65535 ∧ (65535 : Nat) ≤ 65535 by decide) ((F2 781 (by decide) (by omega)).trans a81) (show (1000 : Nat) ≤ 1000 ∧ (1000 : Nat) ≤ 60000 by decide) ((F2 775 (by decide) (by omega)).trans a75) hw ((F2 789 (by decide) (by omega)).trans a89) (Nat.zero_le _) ?_ ((F2 785 (by decide) (by omega)).trans a85) (Nat.zero_le _) ?_ ((F2 784 (by decide) (by omega)).trans a84) (Nat.zero_le _) ?_
    · show (0 : Nat) = 1 ↔ ((0 : Nat) = 1 ∧ (0 : Nat) = 0 + 0 + 2)
      omega
    · intro z
      exact absurd (show (0 : Nat) = 1 from z) (by decide)
    · intro z
      exact absurd (show (0 : Nat) = 1 from z) (by decide)
    · intro z
      exact absurd (show (0 : Nat) = 1 from z) (by decide)
  obtain ⟨w', hw'⟩ := ntd_ex (fun i => if i = 0 then 1 else if i = 9 then ms else if i = 10 then cw else if i = 11 then 65535 else if i = 12 then 1000 else if i = 13 then w else 0) nw 0
  obtain ⟨A3, n1, n2, n3, n4, n5, n6, n7, n8, n9, n10⟩ := m_noted fu hR2 hk hI.w hnw2 (f := 0) (Nat.le_refl 0) hw'
  rw [← i0] at n1
  have n5 : mA A3 = mA A2 := n5
  obtain ⟨-, -, -, -, -, -, -, -, -, -, -, -, -, -, w15, w16, w17, w18, w19, -⟩ := hw'
  have w17' : (w' 16) = 1 := w17
  have w16' : (w' 15) = nw + 1000 := w16
  have w18' : (w' 17) = 0 := w18
  have w19' : (w' 18) = nw := w19
  have hR3 : RW A3 := RW_of n2 n3 n4 hR2
  have hA3 := rw_cnO hR3 k hk
  have F3 : ∀ g, g < 896 → ¬ (g = 805 ∨ g = 807 ∨ g = 785 ∨ (787 ≤ g ∧ g ≤ 790)) → mF A3 g (342 + 4 * k) = mF A g (342 + 4 * k) := fun g h1 h2 => (n6 g _ (by omega)).trans (F2 g h1 (by omega))
  have v71 : mF A3 771 (342 + 4 * k) = iss := (F3 771 (by decide) (by omega)).trans a71
  have v74 : mF A3 774 (342 + 4 * k) = iss := (F3 774 (by decide) (by omega)).trans a74
  generalize hA4 : sF (sF A3 773 (342 + 4 * k) (iss + 1)) 774 (342 + 4 * k) (iss + 1) = A4
  have ff4 : FF (fun g => g = 773 ∨ g = 774) (342 + 4 * k) A3 A4 := by subst hA4; exact (FF.s _ (by omega)).tr (FF.s _ (by omega))
  have u73 : mF A4 773 (342 + 4 * k) = iss + 1 := by subst hA4; simp only [mF_sF, reduceIte, Nat.reduceEqDiff, Nat.reduceAdd, Nat.reduceMul, Nat.reduceLT, Nat.reduceLeDiff, and_true, true_and, and_false, false_and, and_self, ne_eq, not_true_eq_false, not_false_eq_true, Option.some.injEq, reduceCtorEq]
  have u74 : mF A4 774 (342 + 4 * k) = iss + 1 := by subst hA4; simp only [mF_sF, reduceIte, Nat.reduceEqDiff, Nat.reduceAdd, Nat.reduceMul, Nat.reduceLT, Nat.reduceLeDiff, and_true, true_and, and_false, false_and, and_self, ne_eq, not_true_eq_false, not_false_eq_true, Option.some.injEq, reduceCtorEq]
  have F4 : ∀ g, ¬ (g = 773 ∨ g = 774) → mF A4 g (342 + 4 * k) = mF A3 g (342 + 4 * k) := fun g h2 => ff4.2.2.2.2 g _ (fun e => h2 e.1)
  have lt1 : iss - (iss + 1) < 0 := by
    rw [show iss - (iss + 1) = -1 from by rw [Int32.sub_eq_add_neg, Int32.neg_add, Int32.sub_eq_add_neg, ← Int32.add_assoc, Int32.add_right_neg, Int32.zero_add]]
    decide
  have o73 : okA (sF A3 773 (342 + 4 * k) (iss + 1)) 12 (342 + 4 * k) := hA3
  have x74 : mF (sF A3 773 (342 + 4 * k) (iss + 1)) 774 (342 + 4 * k) = iss := by rw [mF_sF, if_neg (fun e => absurd e.1 (by decide))]; exact v74
  have x73 : mF (sF A3 773 (342 + 4 * k) (iss + 1)) 773 (342 + 4 * k) = iss + 1 := by rw [mF_sF, if_pos ⟨rfl, rfl⟩]
  have run : fX16_synAck fu 323 (some (342 + 4 * k)) A = some A4 := by
    unfold fX16_synAck
    rw [gI_ok hA, ob_some, gI_ok hA, ob_some, gI_ok hA, ob_some, a71, gI_ok hA, ob_some, rc_ok hA, ob_some, m_open hR hk, b2_some, rc_ok (rw_ok323 hR), ob_some, r1, ob_some, rc_ok (rw_ok323 hR1), ob_some, hpay, ob_some, gI_ok (rw_cnO hR2 k hk), ob_some, (F2 771 (by decide) (by omega)).trans a71, rc_ok (rw_ok323 hR2), ob_some, n1, ob_some, gI_ok hA3, ob_some, v71, pF_ok hA3, ob_some, gI_ok o73, ob_some, x74, gI_ok o73, ob_some, x73, m_before, b2_some, if_pos lt1, if_neg (by decide), gI_ok o73, ob_some, x73, pF_ok o73, ob_some]
    rw [← hA4]
  have fr : FCA k A1 A4 := by
    have g1 : FCA k A1 A2 := ff2.ca (by intro f hf; omega)
    have g2 : FCA k A2 A3 := ⟨n2, n3, n4, fun f a n => n6 f a (fun e => n (by unfold PCa; omega)), fun a _ => by rw [n5], by rw [n6 1049 323 (by omega)]; exact Int32.le_refl _⟩
    exact (g1.tr g2).tr (ff4.ca (by intro f hf; omega))
  have eA : mA A4 = mA A1 := by rw [ff4.2.2.2.1, n5, ff2.2.2.2.1]
  have jl : JL0 KN KS t T' A4 M' := by
    have hC' : CnO M' c := by
      have : CnO (payX M c 18) c := CnO_sg payX_S payX_G hC
      exact CnO_fr r7.gen this
    exact JL0_cn r5 hC' fr.1 fr.2.1 fr.2.2.1 (fun f a hf => by
      rw [ff4.2.2.2.2 f a (by unfold JLf at hf; omega), n6 f a (by unfold JLf at hf; omega), ff2.2.2.2.2 f a (by unfold JLf at hf; omega)]) (fun a _ => by rw [eA]) rfl rfl rfl (fun _ _ _ _ _ _ => rfl) (fun _ _ _ _ _ _ _ _ => rfl)
  refine ⟨A4, M', T', run, r2, r3, r4, jl, r6.ca.tr fr, r7, fun a ha => ?_, fun g h1 h2 => ?_, u73, u74, ?_, ?_, ?_, ?_, ?_, ?_, ?_⟩
  · rw [eA]; exact r6.2.2.2.2.2.1 a (by omega) (by omega)
  · rw [F4 g (by omega)]; exact F3 g h1 (by omega)
  · rw [F4 785 (by omega), n7, w17']; rfl
  · rw [F4 787 (by omega), (n8 w17').1, w18']; exact i0.symm
  · rw [F4 788 (by omega), (n8 w17').2, w19']
  · rw [F4 789 (by omega), n9]; rfl
  · rw [F4 790 (by omega), n10, w16']
  · rw [F4 805 (by omega), n6 805 _ (by omega)]; exact v805
  · rw [F4 807 (by omega), n6 807 _ (by omega)]; exact v807
end Syn2
