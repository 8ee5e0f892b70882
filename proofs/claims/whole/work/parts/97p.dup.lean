/-! ===== part 97p: an acknowledgement that comes again, in both ===== -/
section Dup
variable {A A' M M' : Mm}
/-- what holds of all but the connection's numbers, when only fields of a connection are other -/
theorem TK_base {KN KS t u T k c nw im ig hd ft : Nat} {b0 : Int32} {v : Nat → Nat} (h : TK A M KN KS t T im ig k c nw hd ft b0 v) (hu : t + u ≤ 1000) (aS : mS A' = mS A) (aG : mG A' = mG A) (aB : mB A' = mB A) (aA : mA A' = mA A) (aF : ∀ f a, ¬ (768 ≤ f ∧ f < 832 ∧ a = 342 + 4 * k) → mF A' f a = mF A f a) (xS : mS M' = mS M) (xG : mG M' = mG M) (xB : mB M' = mB M) (xA : mA M' = mA M) (xF : ∀ f a, a ≠ c → a ≠ c + 2 → a ≠ c + 5 → mF M' f a = mF M f a) :
    (JL0 KN KS (t + u) T A' M' ∧ Bd RM TM A' ∧ Bd RX TX M' ∧ JN A' M' ∧ JI im ig A' M' ∧ CnO M' c ∧ (mF A' 1034 323) = nI nw) ∧ FCA k A A' ∧ FCM c M M' := by
  have hJ := h.jl
  refine ⟨⟨?_, (Bd_same h.ba aS aG aB aA), (Bd_same h.bm xS xG xB xA), ?_, ?_, ?_, ?_⟩, ⟨aS, aG, aB, fun f a n => aF f a (fun e => n (by unfold PCa; omega)), fun a _ => by rw [aA], by rw [aF 1049 323 (by omega)]; exact Int32.le_refl _⟩, ⟨by rw [xS]; exact Nat.le_refl _, fun a _ => by rw [xS]; exact ⟨rfl, rfl⟩, fun f a _ _ => by rw [xG], fun a _ _ => by rw [xB], fun f a _ n => xF f a (fun e => n (by unfold PCx; omega)) (fun e => n (by unfold PCx; omega)) (fun e => n (by unfold PCx; omega)), fun a _ _ => by rw [xA]⟩⟩
  · exact JL0_mono hu (JL0_cn hJ h.cn aS aG aB (fun g a hh => aF g a (fun e => by unfold JLf at hh; omega)) (fun a _ => by rw [aA]) xS xG xB (fun g a h1 h2 h3 _ => xF g a h1 h2 h3) (fun a _ _ _ _ _ _ _ => by rw [xA]))
  · intro i hi
    rw [aA, xA]; exact h.jn i hi
  · obtain ⟨z1, z2, z3, z4, z5, z6⟩ := h.ji
    unfold JI okA
    rw [xS, xG, xA, aA]
    exact ⟨z1, z2, z3, z4, z5, z6⟩
  · rw [show CnO M' c = CnO M c from by unfold CnO okA; rw [xS, xG]]
    exact h.cn
  · rw [aF _ _ (by omega)]; exact h.nw
theorem TK.t1000 {KN KS t T k c nw im ig hd ft : Nat} {b0 : Int32} {v : Nat → Nat} (h : TK A M KN KS t T im ig k c nw hd ft b0 v) : t ≤ 1000 := by
  obtain ⟨_, _, _, _, _, q, -⟩ := h.jl.2.2.2.2.2.2.2
  exact q.2
theorem CE_congr2 {k c : Nat} (h : CE A M k c) (hA : ∀ f, 768 ≤ f → f < 832 → ¬ (778 ≤ f ∧ f ≤ 792) → ¬ (799 ≤ f ∧ f ≤ 811) → mF A' f (342 + 4 * k) = mF A f (342 + 4 * k)) (h1 : mA A' (343 + 4 * k) = mA A (343 + 4 * k)) (hM : ∀ f, 64 ≤ f → f < 128 → mF M' f c = mF M f c) (h2 : mA M' (c + 1) = mA M (c + 1)) : CE A' M' k c := by
  have FA' : ∀ g, ¬ (g < 768 ∨ 832 ≤ g ∨ (778 ≤ g ∧ g ≤ 792) ∨ (799 ≤ g ∧ g ≤ 811)) → mF A' g (342 + 4 * k) = mF A g (342 + 4 * k) := fun g hg => hA g (by omega) (by omega) (by omega) (by omega)
  have FC' : ∀ g, ¬ (g < 64 ∨ 128 ≤ g) → mF M' g c = mF M g c := fun g hg => hM g (by omega) (by omega)
  have hdA := h1
  have hdM := h2
  refine CE.mk ?_ ?_ ?_ ?_ ?_ ?_ ?_ ?_ ?_ ?_ ?_ ?_ ?_ ?_ ?_ ?_ ?_ ?_
  · exact (FA' 768 (by omega)).trans (h.st.trans (FC' 64 (by omega)).symm)
  · exact (FA' 769 (by omega)).trans (h.ip.trans (FC' 65 (by omega)).symm)
  · exact (FA' 770 (by omega)).trans (h.po.trans (FC' 66 (by omega)).symm)
  · exact (FA' 771 (by omega)).trans (h.is.trans (FC' 67 (by omega)).symm)
  · exact (FA' 772 (by omega)).trans (h.una.trans (FC' 68 (by omega)).symm)
  · exact (FA' 773 (by omega)).trans (h.at'.trans (FC' 69 (by omega)).symm)
  · exact (FA' 774 (by omega)).trans (h.max.trans (FC' 70 (by omega)).symm)
  · exact (FA' 775 (by omega)).trans (h.wi.trans (FC' 71 (by omega)).symm)
  · exact (FA' 776 (by omega)).trans (h.w1.trans (FC' 82 (by omega)).symm)
  · exact (FA' 777 (by omega)).trans (h.w2.trans (FC' 83 (by omega)).symm)
  · exact (FA' 794 (by omega)).trans (h.hl.trans (FC' 78 (by omega)).symm)
  · exact (FA' 796 (by omega)).trans (h.bl.trans (FC' 76 (by omega)).symm)
  · rw [FA' 796 (by omega), FA' 795 (by omega), FC' 75 (by omega)]; exact h.bp
  · exact (FA' 797 (by omega)).trans (h.bg.trans (FC' 77 (by omega)).symm)
  · exact (FA' 798 (by omega)).trans (h.cl.trans (FC' 74 (by omega)).symm)
  · rw [FA' 768 (by omega), FA' 812 (by omega), FC' 73 (by omega)]; exact h.la
  · rw [FA' 768 (by omega), FA' 813 (by omega), FC' 72 (by omega)]; exact h.li
  · rw [FA' 794 (by omega), hdA, hdM]; exact h.hd
/-- how much goes again -/
def dgN (v : Nat → Nat) : Nat := min (v 9) (min (1 + (v 4) + (v 5) - (v 1)) ((v 3) - (v 1)))
def dgF (v : Nat → Nat) : Nat := if (v 8) = 1 ∧ (v 1) + dgN v = 1 + (v 4) + (v 5) then 1 else 0
theorem dg_seg {k nw t im : Nat} {b0 : Int32} {v : Nat → Nat} (hI : CI A k nw t im b0 v) (hS : CS A k nw b0 v) (h1 : (v 0) ≠ 1) (hu : (v 1) < (v 3)) : sendSt (v 0) ∧ segOk v (v 1) (dgN v) (dgF v) ∧ min (if min (v 9) (1 + (v 4) + (v 5) - (v 1)) = 1 + (v 4) + (v 5) - (v 1) ∧ (v 7) = 1 then min (v 9) (1 + (v 4) + (v 5) - (v 1)) + 1 else min (v 9) (1 + (v 4) + (v 5) - (v 1))) ((v 3) - (v 1)) = dgN v + dgF v ∧ (dgF v = 1 → (v 8) = 1) := by
  have hs1 := hS.st1
  have hmL := hI.mL
  have hcl := hI.cl1
  have hfn1 := hI.fn1
  have hfn := hI.fnI
  have hms := hI.ms1
  have n46 : ¬ ((v 0) = 4 ∨ (v 0) = 6) := fun e => by
    obtain ⟨q1, q2⟩ := hS.s46 e
    omega
  have u1 := hS.sN1 h1
  refine ⟨by unfold sendSt; omega, ?_⟩
  have df : dgF v ≤ 1 := by unfold dgF; split <;> omega
  have d1 : dgF v = 1 → (v 8) = 1 ∧ (v 1) + dgN v = 1 + (v 4) + (v 5) := fun e => by
    unfold dgF at e
    by_cases q : (v 8) = 1 ∧ (v 1) + dgN v = 1 + (v 4) + (v 5)
    · exact q
    · rw [if_neg q] at e; cases e
  have d0 : dgF v = 0 → ¬ ((v 8) = 1 ∧ (v 1) + dgN v = 1 + (v 4) + (v 5)) := fun e q => by
    unfold dgF at e
    rw [if_pos q] at e; cases e
  generalize hn : dgN v = n at *
  generalize hf : dgF v = f at *
  unfold dgN at hn
  have hul : (v 1) ≤ 1 + (v 4) + (v 5) := by omega
  refine ⟨⟨u1, by omega, by omega, by omega, df, ?_, fun e => ?_⟩, ?_, fun e => (d1 e).1⟩
  · by_cases e : f = 1
    · omega
    · have := d0 (by omega)
      by_cases e2 : (v 8) = 1
      · have := hfn.mp e2
        omega
      · have : ¬ ((v 7) = 1 ∧ (v 3) = (v 4) + (v 5) + 2) := fun q => e2 (hfn.mpr q)
        omega
  · obtain ⟨q1, q2⟩ := d1 e
    have := hfn.mp q1
    omega
  · by_cases e2 : (v 8) = 1
    · have e3 := hfn.mp e2
      by_cases e : f = 1
      · obtain ⟨-, q2⟩ := d1 e
        rw [if_pos (by omega)]
        omega
      · have := d0 (by omega)
        rw [if_neg (by omega)]
        omega
    · have e3 : ¬ ((v 7) = 1 ∧ (v 3) = (v 4) + (v 5) + 2) := fun q => e2 (hfn.mpr q)
      have e4 : f = 0 := by
        by_cases e : f = 1
        · exact absurd (d1 e).1 e2
        · omega
      split <;> omega
theorem sp_dup (fu : Nat) (hfu : 4000 ≤ fu) {KN KS t T k c nw im ig hd ft : Nat} {b0 : Int32} {v : Nat → Nat} (h : TK A M KN KS t T im ig k c nw hd ft b0 v) (hk : k < 16) (hT2 : T < 2 ^ 30) (h1 : (v 0) ≠ 1) (hu : (v 1) < (v 3)) :
    ∃ A' M' T' v', fX16_duplicate fu 323 (some (342 + 4 * k)) A = some A' ∧ (∀ {β : Type} (K : Mm → Option β), (b2 (fX5_countDuplicate fu (c + 5) ((mF M 70 c) - (mF M 68 c)) M) fun v15 M14 => if v15 = 0 then K M14 else (gI M14 1 68 (some c)).bind fun v16 => (rc M14 1 (some c)).bind fun q17 => b2 (fX1_goesAgain fu q17 M14) fun v19 M18 => (rc M18 9 (some 317)).bind fun q20 => (fX9_sendPart fu q20 (some c) v16 v19 M18).bind fun M21 => K M21) = K M') ∧ T ≤ T' ∧ T' ≤ T + 1 ∧ TK A' M' KN KS t T' im ig k c nw hd ft b0 v' ∧ FCA k A A' ∧ FCM c M M' ∧ (v' 0) = (v 0) ∧ (v' 1) = (v 1) ∧ (v' 3) = (v 3) := by
  have hI := h.ci
  have hE := h.ce
  have hP := h.cp
  have hS := h.cs
  have hC := h.cn
  have c1 := hC.1
  have c5 := hC.2.2.2.2.2.2.2.2.2.2.2.2.2
  have hR := h.rw'
  have hA := rw_cnO hR k hk
  have hmL := hI.mL
  have b1 := hI.hl1
  have b2' := hI.bl1
  have hcl1 := hI.cl1
  have hms1 := hI.ms1
  have hcw1 := hI.cw1
  have hss1 := hI.ss1
  have ht := h.t1000
  have one0 : ¬ (1 : Int32) = 0 := by decide
  obtain ⟨hst, hs, hmin, hf1⟩ := dg_seg hI hS h1 hu
  have ed : (mF A 792 (342 + 4 * k)) = (mF M 326 (c + 5)) := hP.du
  obtain ⟨dd, hdd⟩ : ∃ dd, (mF A 792 (342 + 4 * k)) + 1 = dd := ⟨_, rfl⟩
  have e1 : mF (sF A 792 (342 + 4 * k) dd) 792 (342 + 4 * k) = dd := by rw [mF_sF, if_pos ⟨rfl, rfl⟩]
  have e2 : mF (sF M 326 (c + 5) dd) 326 (c + 5) = dd := by rw [mF_sF, if_pos ⟨rfl, rfl⟩]
  by_cases q3 : dd = 3
  · have hA1 : okA (sF A 792 (342 + 4 * k) dd) 12 (342 + 4 * k) := hA
    have hM1 : okA (sF M 326 (c + 5) dd) 5 (c + 5) := c5
    have ess : jmax ((b0 + nI (v 3) - (b0 + nI (v 1))) / (2 : Int32)) ((2 : Int32) * nI (v 9)) = nI (max (((v 3) - (v 1)) / 2) (2 * (v 9))) := by
      rw [sub_b0, nI_sub (by omega), show (2 : Int32) = nI 2 from rfl, pk_div (by omega) (by decide) (by decide), pk_mul, jmax_nI (by omega) (by omega)]
    generalize hss : max (((v 3) - (v 1)) / 2) (2 * (v 9)) = s' at ess
    have hs' : 128 ≤ s' ∧ s' ≤ 65535 := by omega
    generalize hA2 : sF (sF A 792 (342 + 4 * k) dd) 780 (342 + 4 * k) (nI s') = A2
    generalize hM2 : sF (sF (sF (sF M 326 (c + 5) dd) 322 (c + 5) (nI s')) 321 (c + 5) (nI (s' + 3 * (v 9)))) 327 (c + 5) 1 = M2
    have FA2 : ∀ g, ¬ (g = 780 ∨ g = 792) → mF A2 g (342 + 4 * k) = mF A g (342 + 4 * k) := fun g hg => by
      subst hA2
      rw [mF_sF, mF_sF, if_neg (fun e => hg (Or.inl e.1)), if_neg (fun e => hg (Or.inr e.1))]
    have FAo : ∀ g a, a ≠ 342 + 4 * k → mF A2 g a = mF A g a := fun g a hg => by
      subst hA2
      rw [mF_sF, mF_sF, if_neg (fun e => hg e.2), if_neg (fun e => hg e.2)]
    have FMo : ∀ g a, ¬ ((g = 321 ∨ g = 322 ∨ g = 326 ∨ g = 327) ∧ a = c + 5) → mF M2 g a = mF M g a := fun g a hg => by
      subst hM2
      rw [mF_sF, if_neg (fun e => hg ⟨by omega, e.2⟩), mF_sF, if_neg (fun e => hg ⟨by omega, e.2⟩), mF_sF, if_neg (fun e => hg ⟨by omega, e.2⟩), mF_sF, if_neg (fun e => hg ⟨by omega, e.2⟩)]
    have a80 : mF A2 780 (342 + 4 * k) = nI s' := by subst hA2; rw [mF_sF, if_pos ⟨rfl, rfl⟩]
    have a92 : mF A2 792 (342 + 4 * k) = dd := by subst hA2; simp only [mF_sF, reduceIte, Nat.reduceEqDiff, Nat.reduceAdd, Nat.reduceMul, Nat.reduceLT, Nat.reduceLeDiff, and_true, true_and, and_false, false_and, and_self, ne_eq, not_true_eq_false, not_false_eq_true, Option.some.injEq, reduceCtorEq]
    have m21 : mF M2 321 (c + 5) = nI (s' + 3 * (v 9)) := by subst hM2; simp only [mF_sF, reduceIte, Nat.reduceEqDiff, Nat.reduceAdd, Nat.reduceMul, Nat.reduceLT, Nat.reduceLeDiff, and_true, true_and, and_false, false_and, and_self, ne_eq, not_true_eq_false, not_false_eq_true, Option.some.injEq, reduceCtorEq]
    have m22 : mF M2 322 (c + 5) = nI s' := by subst hM2; simp only [mF_sF, reduceIte, Nat.reduceEqDiff, Nat.reduceAdd, Nat.reduceMul, Nat.reduceLT, Nat.reduceLeDiff, and_true, true_and, and_false, false_and, and_self, ne_eq, not_true_eq_false, not_false_eq_true, Option.some.injEq, reduceCtorEq]
    have m26 : mF M2 326 (c + 5) = dd := by subst hM2; simp only [mF_sF, reduceIte, Nat.reduceEqDiff, Nat.reduceAdd, Nat.reduceMul, Nat.reduceLT, Nat.reduceLeDiff, and_true, true_and, and_false, false_and, and_self, ne_eq, not_true_eq_false, not_false_eq_true, Option.some.injEq, reduceCtorEq]
    have m27 : mF M2 327 (c + 5) = 1 := by subst hM2; simp only [mF_sF, reduceIte, Nat.reduceEqDiff, Nat.reduceAdd, Nat.reduceMul, Nat.reduceLT, Nat.reduceLeDiff, and_true, true_and, and_false, false_and, and_self, ne_eq, not_true_eq_false, not_false_eq_true, Option.some.injEq, reduceCtorEq]
    have FC' : ∀ g, ¬ 100000 ≤ g → mF M2 g c = mF M g c := fun g _ => FMo g _ (by omega)
    have FR' : ∀ g, ¬ 100000 ≤ g → mF M2 g (c + 2) = mF M g (c + 2) := fun g _ => FMo g _ (by omega)
    have FP' : ∀ g, ¬ (g = 321 ∨ g = 322 ∨ g = 326 ∨ g = 327) → mF M2 g (c + 5) = mF M g (c + 5) := fun g hg => FMo g _ (fun e => hg e.1)
    have aS : mS A2 = mS A := by subst hA2; rfl
    have aG : mG A2 = mG A := by subst hA2; rfl
    have aB : mB A2 = mB A := by subst hA2; rfl
    have aA : mA A2 = mA A := by subst hA2; rfl
    have xS : mS M2 = mS M := by subst hM2; rfl
    have xG : mG M2 = mG M := by subst hM2; rfl
    have xB : mB M2 = mB M := by subst hM2; rfl
    have xA : mA M2 = mA M := by subst hM2; rfl
    have okA2 : okA A2 12 (342 + 4 * k) := by unfold okA; rw [aS]; exact hA
    obtain ⟨⟨z1, z2, z3, z4, z5, z6, z7⟩, z8, z9⟩ := TK_base (A' := A2) (M' := M2) (u := 0) h (by omega) aS aG aB aA (fun f a hh => by
      by_cases q : a = 342 + 4 * k
      · subst q
        exact FA2 f (by omega)
      · exact FAo f a q) xS xG xB xA (fun f a _ _ h5 => FMo f a (fun e => h5 e.2))
    have aF'' : ∀ f a, ¬ (768 ≤ f ∧ f < 832 ∧ a = 342 + 4 * k) → mF A2 f a = mF A f a := fun f a hh => by
      by_cases q : a = 342 + 4 * k
      · subst q
        exact FA2 f (by omega)
      · exact FAo f a q
    have hdA : mA A2 (343 + 4 * k) = mA A (343 + 4 * k) := by rw [aA]
    have hdM : mA M2 (c + 1) = mA M (c + 1) := by rw [xA]
    have hE2 : CE A2 M2 k c := by
      have FA' := FA2
      refine CE.mk ?_ ?_ ?_ ?_ ?_ ?_ ?_ ?_ ?_ ?_ ?_ ?_ ?_ ?_ ?_ ?_ ?_ ?_
      · exact (FA' 768 (by omega)).trans (hE.st.trans (FC' 64 (by omega)).symm)
      · exact (FA' 769 (by omega)).trans (hE.ip.trans (FC' 65 (by omega)).symm)
      · exact (FA' 770 (by omega)).trans (hE.po.trans (FC' 66 (by omega)).symm)
      · exact (FA' 771 (by omega)).trans (hE.is.trans (FC' 67 (by omega)).symm)
      · exact (FA' 772 (by omega)).trans (hE.una.trans (FC' 68 (by omega)).symm)
      · exact (FA' 773 (by omega)).trans (hE.at'.trans (FC' 69 (by omega)).symm)
      · exact (FA' 774 (by omega)).trans (hE.max.trans (FC' 70 (by omega)).symm)
      · exact (FA' 775 (by omega)).trans (hE.wi.trans (FC' 71 (by omega)).symm)
      · exact (FA' 776 (by omega)).trans (hE.w1.trans (FC' 82 (by omega)).symm)
      · exact (FA' 777 (by omega)).trans (hE.w2.trans (FC' 83 (by omega)).symm)
      · exact (FA' 794 (by omega)).trans (hE.hl.trans (FC' 78 (by omega)).symm)
      · exact (FA' 796 (by omega)).trans (hE.bl.trans (FC' 76 (by omega)).symm)
      · rw [FA' 796 (by omega), FA' 795 (by omega), FC' 75 (by omega)]; exact hE.bp
      · exact (FA' 797 (by omega)).trans (hE.bg.trans (FC' 77 (by omega)).symm)
      · exact (FA' 798 (by omega)).trans (hE.cl.trans (FC' 74 (by omega)).symm)
      · rw [FA' 768 (by omega), FA' 812 (by omega), FC' 73 (by omega)]; exact hE.la
      · rw [FA' 768 (by omega), FA' 813 (by omega), FC' 72 (by omega)]; exact hE.li
      · rw [FA' 794 (by omega), hdA, hdM]; exact hE.hd
    have hQ2 : CQ A2 M2 k c := by
      have FA' := FA2
      refine CQ.mk ?_ (a80.trans m22.symm) ?_ ?_ (a92.trans m26.symm) ?_ ?_ ?_ ?_ ?_
      · exact (FA' 778 (by omega)).trans (hP.ms.trans (FP' 320 (by omega)).symm)
      · exact (FA' 781 (by omega)).trans (hP.ro.trans (FP' 323 (by omega)).symm)
      · exact (FA' 791 (by omega)).trans (hP.tr.trans (FP' 325 (by omega)).symm)
      · exact (FA' 785 (by omega)).trans (hP.ti.trans (FP' 328 (by omega)).symm)
      · rw [FA' 785 (by omega), FA' 787 (by omega), FA' 788 (by omega), FP' 329 (by omega), FP' 330 (by omega)]; exact hP.tn
      · exact (FA' 784 (by omega)).trans (hP.me.trans (FP' 331 (by omega)).symm)
      · rw [FA' 784 (by omega), FA' 782 (by omega), FA' 783 (by omega), FP' 332 (by omega), FP' 333 (by omega)]; exact hP.sv
      · rw [FA' 789 (by omega), FA' 790 (by omega), FP' 324 (by omega)]
        exact hP.tm.elim Or.inl (fun q => Or.inr (Or.inl q))
    have hI2 : CI A2 k nw t im b0 (uv v 11 s') := by
      have FA' := FA2
      refine CI.mk ?_ ?_ ?_ ?_ ?_ ?_ ?_ ?_ ?_ ?_ ?_ ?_ ?_ ?_ ?_ ?_ ?_ ?_ ?_ ?_ ?_ ?_ ?_ ?_ ?_ ?_ ?_ ?_ ?_ ?_ ?_ ?_ ?_ ?_ ?_ ?_
      · exact (FA' 797 (by omega)).trans hI.bg
      · exact (FA' 772 (by omega)).trans hI.una
      · exact (FA' 773 (by omega)).trans hI.at'
      · exact (FA' 774 (by omega)).trans hI.max
      · exact hI.ua
      · exact hI.am
      · exact hI.mL
      · exact (FA' 794 (by omega)).trans hI.hl
      · exact hI.hl1
      · exact (FA' 796 (by omega)).trans hI.bl
      · exact hI.bl1
      · rw [FA' 795 (by omega)]; exact hI.bp
      · exact (FA' 798 (by omega)).trans hI.cl
      · exact hI.cl1
      · exact (FA' 799 (by omega)).trans hI.fn
      · exact hI.fn1
      · exact hI.fnI
      · exact (FA' 778 (by omega)).trans hI.ms
      · exact hI.ms1
      · exact (FA' 779 (by omega)).trans hI.cw
      · exact hI.cw1
      · exact a80
      · exact hs'
      · exact (FA' 781 (by omega)).trans hI.ro
      · exact hI.ro1
      · exact (FA' 775 (by omega)).trans hI.wi
      · exact hI.wi1
      · exact (FA' 789 (by omega)).trans hI.on
      · exact hI.on1
      · rw [FA' 790 (by omega)]; exact hI.tm
      · exact (FA' 785 (by omega)).trans hI.ti
      · exact hI.ti1
      · rw [FA' 787 (by omega), FA' 788 (by omega)]; exact hI.tn
      · exact (FA' 784 (by omega)).trans hI.me
      · exact hI.me1
      · rw [FA' 782 (by omega), FA' 783 (by omega)]; exact hI.sv
    have hS2 : CS A2 k nw b0 (uv v 11 s') := by
      have FA' := FA2
      refine CS.mk ?_ ?_ ?_ ?_ ?_ ?_ ?_ ?_ ?_
      · exact (FA' 768 (by omega)).trans hS.st
      · exact hS.st1
      · rw [FA' 771 (by omega), FA' 786 (by omega)]; exact hS.s1
      · exact hS.sN1
      · exact hS.s27
      · exact hS.s358
      · exact hS.s46
      · rw [FA' 812 (by omega)]; exact hS.la
      · rw [FA' 813 (by omega)]; exact hS.si
    have hr2 : CR A2 M2 k c hd ft := CR_congr (A := A) (M := M) (fun g hg => FA2 g (by omega)) (by rw [aA]) (by rw [aA]) (fun g hg => FR' g (by omega)) (by rw [xA]) (by rw [xA]) h.cr
    obtain ⟨w, hw⟩ := ntd_ex (uv v 11 s') nw (v 1)
    obtain ⟨A3, M3, T', r1, r2, r3, r4, r5, r6, r7, r8, r9, r10, r11, ⟨r12, r12', r12''⟩, r13, r14, r15, r16, r17, r18, r19, r20, r21, r22⟩ := sp_dataOut0 fu hfu z1 z2 z3 hT2 hk z6 hE2 hQ2 hI2.w hS2 hr2 z4 z5 z7 h.n2 hst (f := (v 1)) (n := dgN v) (fi := dgF v) hs hw
    obtain ⟨-, -, -, -, -, -, -, -, -, -, -, -, -, -, -, wtm, wti, wtn, wta, -⟩ := hw
    have wti0 : (w 16) = 0 := by rw [wti]; exact if_pos hu
    have hR3 := r5.1
    have hA3 := rw_cnO hR3 k hk
    have hnst : nst (uv v 11 s') (dgF v) = (v 0) := by
      unfold nst
      rw [if_neg]
      · rfl
      · intro q
        have q1 := hf1 q.1
        have q2 : (v 8) = 0 := q.2
        omega
    have hfin : (if dgF v = 1 then 1 else (uv v 11 s' 8)) = (v 8) := by
      by_cases q : dgF v = 1
      · rw [if_pos q, hf1 q]
      · rw [if_neg q]; rfl
    generalize hA4 : sF (sF A3 779 (342 + 4 * k) (nI (s' + 3 * (v 9)))) 786 (342 + 4 * k) 1 = A4
    have FA4 : ∀ g, ¬ (g = 779 ∨ g = 786) → mF A4 g (342 + 4 * k) = mF A3 g (342 + 4 * k) := fun g hg => by
      subst hA4
      rw [mF_sF, mF_sF, if_neg (fun e => hg (Or.inr e.1)), if_neg (fun e => hg (Or.inl e.1))]
    have FA4o : ∀ g a, a ≠ 342 + 4 * k → mF A4 g a = mF A3 g a := fun g a hg => by
      subst hA4
      rw [mF_sF, mF_sF, if_neg (fun e => hg e.2), if_neg (fun e => hg e.2)]
    have a79 : mF A4 779 (342 + 4 * k) = nI (s' + 3 * (v 9)) := by subst hA4; simp only [mF_sF, reduceIte, Nat.reduceEqDiff, Nat.reduceAdd, Nat.reduceMul, Nat.reduceLT, Nat.reduceLeDiff, and_true, true_and, and_false, false_and, and_self, ne_eq, not_true_eq_false, not_false_eq_true, Option.some.injEq, reduceCtorEq]
    have a86 : mF A4 786 (342 + 4 * k) = 1 := by subst hA4; simp only [mF_sF, reduceIte, Nat.reduceEqDiff, Nat.reduceAdd, Nat.reduceMul, Nat.reduceLT, Nat.reduceLeDiff, and_true, true_and, and_false, false_and, and_self, ne_eq, not_true_eq_false, not_false_eq_true, Option.some.injEq, reduceCtorEq]
    have bS : mS A4 = mS A3 := by subst hA4; rfl
    have bG : mG A4 = mG A3 := by subst hA4; rfl
    have bB : mB A4 = mB A3 := by subst hA4; rfl
    have bA : mA A4 = mA A3 := by subst hA4; rfl
    have FF' : ∀ g, ¬ (g = 768 ∨ g = 779 ∨ g = 780 ∨ g = 785 ∨ g = 786 ∨ g = 787 ∨ g = 788 ∨ g = 789 ∨ g = 790 ∨ g = 792 ∨ g = 799 ∨ g = 805 ∨ g = 807) → g < 896 → mF A4 g (342 + 4 * k) = mF A g (342 + 4 * k) := fun g hg h2 => (FA4 g (by omega)).trans ((r22 g (by omega) h2).trans (FA2 g (by omega)))
    have aFo : ∀ f a, ¬ (768 ≤ f ∧ f < 832 ∧ a = 342 + 4 * k) → mF A4 f a = mF A3 f a := fun f a hh => by
      by_cases q : a = 342 + 4 * k
      · subst q
        exact FA4 f (by omega)
      · exact FA4o f a q
    have e768 : (mF A4 768 (342 + 4 * k)) = (mF A 768 (342 + 4 * k)) := by rw [FA4 768 (by omega), r16, hnst, hS.st]
    have e799 : (mF A4 799 (342 + 4 * k)) = (mF A 799 (342 + 4 * k)) := by rw [FA4 799 (by omega), r17, hfin, hI.fn]
    have etm1 : nw ≤ (w 15) ∧ (w 15) ≤ nw + 60000 := by
      rw [wtm]
      show nw ≤ (if (v 14) = 1 then (v 15) else nw + (v 12)) ∧ (if (v 14) = 1 then (v 15) else nw + (v 12)) ≤ nw + 60000
      have := hI.ro1
      by_cases q : (v 14) = 1
      · rw [if_pos q]; exact ⟨(hI.tm q).2.1, (hI.tm q).2.2.1⟩
      · rw [if_neg q]; omega
    refine ⟨A4, M3, T', fun i => if i = 10 then s' + 3 * (v 9) else if i = 11 then s' else if i = 14 then 1 else if i = 15 then (w 15) else if i = 16 then 0 else v i, ?_, ?_, r3, r4, ?_, z8.tr (r14.tr ?_), z9.tr r15, rfl, rfl, rfl⟩
    · unfold fX16_duplicate
      rw [gI_ok hA, ob_some, pF_ok hA, ob_some, hdd, gI_ok hA1, ob_some, e1, if_pos q3, gI_ok hA1, ob_some, gI_ok hA1, ob_some, gI_ok hA1, ob_some, pF_ok hA1, ob_some]
      have g74 : mF (sF A 792 (342 + 4 * k) dd) 774 (342 + 4 * k) = b0 + nI (v 3) := by rw [mF_sF, if_neg (by omega)]; exact hI.max
      have g72 : mF (sF A 792 (342 + 4 * k) dd) 772 (342 + 4 * k) = b0 + nI (v 1) := by rw [mF_sF, if_neg (by omega)]; exact hI.una
      have g78 : mF (sF A 792 (342 + 4 * k) dd) 778 (342 + 4 * k) = nI (v 9) := by rw [mF_sF, if_neg (by omega)]; exact hI.ms
      rw [g74, g72, g78, ess, hA2]
      have ebh : fX12_behind fu (342 + 4 * k) A2 = some (b0 + nI (1 + (v 4) + (v 5)), A2) := by
        unfold fX12_behind
        simp only [gI_ok okA2, ob_some, FA2 797 (by omega), FA2 794 (by omega), FA2 796 (by omega), hI.bg, hI.hl, hI.bl]
        rw [show b0 + 1 = b0 + nI 1 from rfl, Int32.add_assoc b0, nI_add, Int32.add_assoc b0, nI_add]
      have en : jmin (nI (v 9)) (jmin ((b0 + nI (1 + (v 4) + (v 5))) - (b0 + nI (v 1))) ((b0 + nI (v 3)) - (b0 + nI (v 1)))) = nI (dgN v) := by
        unfold dgN
        rw [sub_b0, sub_b0, nI_sub (by have := hs.2.2.2.1; omega), nI_sub (by omega), jmin_nI (by omega) (by omega), jmin_nI (by omega) (by omega)]
      rw [rc_ok okA2, ob_some, ebh, b2_some]
      simp only [gI_ok okA2, ob_some, rc_ok okA2, ebh, b2_some]
      rw [FA2 772 (by omega), FA2 774 (by omega), FA2 778 (by omega), FA2 799 (by omega), hI.una, hI.max, hI.ms, hI.fn, en]
      have tail : fX16_duplicate_L98 fu 323 (some (342 + 4 * k)) (nI (dgN v)) (nI (dgF v)) A2 = some A4 := by
        unfold fX16_duplicate_L98
        rw [gI_ok okA2, ob_some, rc_ok (rw_ok323 z1.1), ob_some, FA2 772 (by omega), hI.una, r1, ob_some, gI_ok hA3, ob_some, gI_ok hA3, ob_some, pF_ok hA3, ob_some, pZ_ok (by rw [ok_sF]; exact hA3) (Or.inr rfl), ob_some]
        rw [r22 780 (by omega) (by decide), r22 778 (by omega) (by decide), a80, FA2 778 (by omega), hI.ms, show (3 : Int32) = nI 3 from rfl, pk_mul, nI_add, hA4]
      have hfn1 := hI.fn1
      have eq2 : (b0 + nI (v 1) + nI (dgN v) = b0 + nI (1 + (v 4) + (v 5))) ↔ (v 1) + dgN v = 1 + (v 4) + (v 5) := by
        rw [Int32.add_assoc, nI_add]
        have := hs.2.2.1
        exact ⟨fun e => b0_inj (by omega) (by omega) e, fun e => by rw [e]⟩
      unfold fX16_duplicate_L97
      by_cases q : (v 8) = 0
      · rw [q, if_pos (show nI 0 = 0 from rfl)]
        have : dgF v = 0 := by unfold dgF; rw [if_neg (by omega)]
        rw [this] at tail
        exact tail
      · rw [if_neg (nI_ne0 (by omega) (by omega))]
        by_cases q2 : (v 1) + dgN v = 1 + (v 4) + (v 5)
        · rw [if_pos (eq2.mpr q2)]
          have : dgF v = 1 := by unfold dgF; rw [if_pos ⟨by omega, q2⟩]
          rw [this] at tail
          exact tail
        · rw [if_neg (fun e => q2 (eq2.mp e))]
          have : dgF v = 0 := by unfold dgF; rw [if_neg (fun e => q2 e.2)]
          rw [this] at tail
          exact tail
    · intro β K
      have rx : fX5_countDuplicate fu (c + 5) ((mF M 70 c) - (mF M 68 c)) M = some (1, M2) := by
        unfold fX5_countDuplicate fX5_countDuplicate_L36 fX5_lowerThreshold
        have x3 : ∀ x, okA (sF (sF M 326 (c + 5) dd) 322 (c + 5) x) 5 (c + 5) := fun _ => c5
        have x4 : ∀ x y, okA (sF (sF (sF M 326 (c + 5) dd) 322 (c + 5) x) 321 (c + 5) y) 5 (c + 5) := fun _ _ => c5
        have g20 : mF (sF M 326 (c + 5) dd) 320 (c + 5) = nI (v 9) := by rw [mF_sF, if_neg (by omega), ← hP.ms]; exact hI.ms
        have g22 : mF (sF (sF M 326 (c + 5) dd) 322 (c + 5) (nI s')) 322 (c + 5) = nI s' := by simp only [mF_sF, reduceIte, Nat.reduceEqDiff, Nat.reduceAdd, Nat.reduceMul, Nat.reduceLT, Nat.reduceLeDiff, and_true, true_and, and_false, false_and, and_self, ne_eq, not_true_eq_false, not_false_eq_true, Option.some.injEq, reduceCtorEq]
        have g20' : mF (sF (sF M 326 (c + 5) dd) 322 (c + 5) (nI s')) 320 (c + 5) = nI (v 9) := by rw [mF_sF, if_neg (by omega)]; exact g20
        rw [gI_ok c5, ob_some, pF_ok c5, ob_some, ← ed, hdd, gI_ok hM1, ob_some, e2, if_pos (by rw [q3]; decide), ob_some, if_pos q3, rc_ok hM1, ob_some, gI_ok hM1, ob_some, pF_ok hM1, ob_some, g20, ← hE.max, ← hE.una, hI.max, hI.una, ess, ob_some, gI_ok (x3 _), ob_some, gI_ok (x3 _), ob_some, pF_ok (x3 _), ob_some, g22, g20', show (3 : Int32) = nI 3 from rfl, pk_mul, nI_add, pZ_ok (x4 _ _) (Or.inr rfl), ob_some, hM2, rN1]
      rw [rx, b2_some, if_neg one0]
      unfold fX1_goesAgain
      have okM2 : okA M2 1 c := z6.1
      have hP2 : (mF M2 320 (c + 5)) = nI (v 9) := by rw [FP' 320 (by omega), ← hP.ms]; exact hI.ms
      have hsf : fX1_segmentFrom fu c (b0 + nI (v 1)) M2 = some (nI (if min (v 9) (1 + (v 4) + (v 5) - (v 1)) = 1 + (v 4) + (v 5) - (v 1) ∧ (v 7) = 1 then min (v 9) (1 + (v 4) + (v 5) - (v 1)) + 1 else min (v 9) (1 + (v 4) + (v 5) - (v 1))), M2) := by
        have := x_segF (A := A2) (M := M2) fu z6 hE2 ((FA2 778 (by omega)).trans (hI.ms.trans hP2.symm)) hI2 (x := (v 1)) (by
          show (v 1) ≤ 1 + (v 4) + (v 5)
          have := hs.2.2.2.1
          omega)
        exact this
      rw [gI_ok okM2, ob_some, rc_ok okM2, ob_some, gI_ok okM2, ob_some, rc_ok okM2, ob_some, FC' 68 (by omega), ← hE.una, hI.una, hsf, b2_some, gI_ok okM2, ob_some, gI_ok okM2, ob_some, FC' 70 (by omega), FC' 68 (by omega), ← hE.una, ← hE.max, hI.una, hI.max, sub_b0, nI_sub (by omega)]
      have hle : (if min (v 9) (1 + (v 4) + (v 5) - (v 1)) = 1 + (v 4) + (v 5) - (v 1) ∧ (v 7) = 1 then min (v 9) (1 + (v 4) + (v 5) - (v 1)) + 1 else min (v 9) (1 + (v 4) + (v 5) - (v 1))) < 2 ^ 31 := by
        split <;> omega
      rw [jmin_nI hle (by omega), hmin, b2_some, rc_ok (xw_ok317 z1.2.1), ob_some, r2, ob_some]
    · refine TK.mk ?_ ?_ r7 ?_ ?_ r10 ?_ ?_ ?_ ?_ ?_ ?_ h.n2
      · exact JL0_cn r5 r10 bS bG bB (fun g a hh => aFo g a (fun e => by unfold JLf at hh; omega)) (fun a _ => by rw [bA]) rfl rfl rfl (fun _ _ _ _ _ _ => rfl) (fun _ _ _ _ _ _ _ _ => rfl)
      · exact Bd_same r6 bS bG bB bA
      · intro i hi
        rw [bA]; exact r8 i hi
      · obtain ⟨y1, y2, y3, y4, y5, y6⟩ := r9
        exact ⟨y1, y2, y3, y4, by rw [bA]; exact y5, y6⟩
      · exact CE_congr2 r11 (fun g h1 h2 h3 h4 => FA4 g (by omega)) (by rw [bA]) (fun _ _ _ => rfl) rfl
      · refine CP.mk ?_ ?_ ?_ ?_ ?_ ?_ ?_ ?_ ?_ ?_ ?_ (Or.inr ⟨?_, ?_⟩)
        · rw [FA4 _ (by omega)]; exact r12.ms
        · rw [a79, r12' 321 (Or.inl rfl), m21]
        · rw [FA4 _ (by omega)]; exact r12.ss
        · rw [FA4 _ (by omega)]; exact r12.ro
        · rw [FA4 _ (by omega)]; exact r12.tr
        · rw [FA4 _ (by omega)]; exact r12.du
        · rw [a86, r12' 327 (Or.inr rfl), m27]
        · rw [FA4 _ (by omega)]; exact r12.ti
        · rw [FA4 785 (by omega), FA4 787 (by omega), FA4 788 (by omega)]; exact r12.tn
        · rw [FA4 _ (by omega)]; exact r12.me
        · rw [FA4 784 (by omega), FA4 782 (by omega), FA4 783 (by omega)]; exact r12.sv
        · rw [FA4 _ (by omega)]; exact r20
        · rw [FA4 _ (by omega)]; exact r12''
      · have FA' : ∀ g, ¬ (g = 768 ∨ g = 779 ∨ g = 780 ∨ g = 785 ∨ g = 786 ∨ g = 787 ∨ g = 788 ∨ g = 789 ∨ g = 790 ∨ g = 792 ∨ g = 799 ∨ g = 805 ∨ g = 807 ∨ 896 ≤ g) → mF A4 g (342 + 4 * k) = mF A g (342 + 4 * k) := fun g hg => FF' g (by omega) (by omega)
        refine CI.mk ?_ ?_ ?_ ?_ ?_ ?_ ?_ ?_ ?_ ?_ ?_ ?_ ?_ ?_ ?_ ?_ ?_ ?_ ?_ ?_ ?_ ?_ ?_ ?_ ?_ ?_ ?_ ?_ ?_ ?_ ?_ ?_ ?_ ?_ ?_ ?_
        · exact (FA' 797 (by omega)).trans hI.bg
        · exact (FA' 772 (by omega)).trans hI.una
        · exact (FA' 773 (by omega)).trans hI.at'
        · exact (FA' 774 (by omega)).trans hI.max
        · exact hI.ua
        · exact hI.am
        · exact hI.mL
        · exact (FA' 794 (by omega)).trans hI.hl
        · exact hI.hl1
        · exact (FA' 796 (by omega)).trans hI.bl
        · exact hI.bl1
        · rw [FA' 795 (by omega)]; exact hI.bp
        · exact (FA' 798 (by omega)).trans hI.cl
        · exact hI.cl1
        · exact e799.trans hI.fn
        · exact hI.fn1
        · exact hI.fnI
        · exact (FA' 778 (by omega)).trans hI.ms
        · exact hI.ms1
        · exact a79
        · exact ⟨by show 64 ≤ s' + 3 * (v 9); omega, by show s' + 3 * (v 9) ≤ 70000; omega⟩
        · exact (FA4 _ (by omega)).trans ((r22 _ (by omega) (by decide)).trans a80)
        · exact hs'
        · exact (FA' 781 (by omega)).trans hI.ro
        · exact hI.ro1
        · exact (FA' 775 (by omega)).trans hI.wi
        · exact hI.wi1
        · exact (FA4 _ (by omega)).trans r20
        · exact Nat.le_refl _
        · exact fun _ => ⟨(FA4 _ (by omega)).trans r21, etm1.1, etm1.2, fun _ => by show (v 1) < 1 + (v 4) + (v 5) + (v 7); omega⟩
        · exact (FA4 _ (by omega)).trans (r18.trans (by rw [wti0]; rfl))
        · exact Nat.zero_le _
        · exact fun hh => absurd (show (0 : Nat) = 1 from hh) (by decide)
        · exact (FA' 784 (by omega)).trans hI.me
        · exact hI.me1
        · rw [FA' 782 (by omega), FA' 783 (by omega)]; exact hI.sv
      · have FA' : ∀ g, ¬ (g = 768 ∨ g = 779 ∨ g = 780 ∨ g = 785 ∨ g = 786 ∨ g = 787 ∨ g = 788 ∨ g = 789 ∨ g = 790 ∨ g = 792 ∨ g = 799 ∨ g = 805 ∨ g = 807 ∨ 896 ≤ g) → mF A4 g (342 + 4 * k) = mF A g (342 + 4 * k) := fun g hg => FF' g (by omega) (by omega)
        refine CS.mk ?_ ?_ ?_ ?_ ?_ ?_ ?_ ?_ ?_
        · exact e768.trans hS.st
        · exact hS.st1
        · exact fun e => absurd (show (v 0) = 1 from e) h1
        · exact hS.sN1
        · exact hS.s27
        · exact hS.s358
        · exact hS.s46
        · rw [FA' 812 (by omega)]; exact hS.la
        · rw [FA' 813 (by omega)]; exact hS.si
      · exact CR_congr (A := A3) (M := M3) (fun g hg => FA4 g (by omega)) (by rw [bA]) (by rw [bA]) (fun _ _ => rfl) rfl rfl r13
      · rw [aFo _ _ (by omega), r14.2.2.2.1 _ _ (by unfold PCa PL; omega), aF'' 1034 323 (by omega)]; exact h.nw
    · exact ⟨bS, bG, bB, fun f a n => aFo f a (fun e => n (by unfold PCa; omega)), fun a _ => by rw [bA], by rw [aFo 1049 323 (by omega)]; exact Int32.le_refl _⟩
  · have hA1 : okA (sF A 792 (342 + 4 * k) dd) 12 (342 + 4 * k) := hA
    have hM1 : okA (sF M 326 (c + 5) dd) 5 (c + 5) := c5
    obtain ⟨A2, M2, cw', g1, g2, g3, g4, g5, g6, g7⟩ : ∃ A2 M2 cw', fX16_duplicate fu 323 (some (342 + 4 * k)) A = some A2 ∧ fX5_countDuplicate fu (c + 5) ((mF M 70 c) - (mF M 68 c)) M = some (0, M2) ∧ FF (fun g => g = 779 ∨ g = 792) (342 + 4 * k) A A2 ∧ FF (fun g => g = 321 ∨ g = 326) (c + 5) M M2 ∧ ((mF A2 792 (342 + 4 * k)) = dd ∧ (mF M2 326 (c + 5)) = dd) ∧ ((mF A2 779 (342 + 4 * k)) = nI cw' ∧ (mF M2 321 (c + 5)) = nI cw') ∧ 64 ≤ cw' ∧ cw' ≤ 70000 := by
      unfold fX16_duplicate fX5_countDuplicate
      rw [gI_ok hA, ob_some, pF_ok hA, ob_some, hdd, gI_ok hA1, ob_some, e1, if_neg q3, ob_some, gI_ok c5, ob_some, pF_ok c5, ob_some, ← ed, hdd, gI_ok hM1, ob_some, e2]
      by_cases q4 : dd ≤ 3
      · rw [if_pos q4, if_pos q4]
        unfold fX5_countDuplicate_L36
        rw [gI_ok hM1, ob_some, e2, if_neg q3, rN0]
        refine ⟨_, _, (v 10), rfl, rfl, FF.s _ (Or.inr rfl), FF.s _ (Or.inr rfl), ⟨e1, e2⟩, ⟨?_, ?_⟩, hcw1.1, hcw1.2⟩
        · rw [mF_sF, if_neg (by omega)]; exact hI.cw
        · rw [mF_sF, if_neg (by omega), ← hP.cw]; exact hI.cw
      · rw [if_neg q4, if_neg q4]
        have g79 : mF (sF A 792 (342 + 4 * k) dd) 779 (342 + 4 * k) = nI (v 10) := by rw [mF_sF, if_neg (by omega)]; exact hI.cw
        have g78 : mF (sF A 792 (342 + 4 * k) dd) 778 (342 + 4 * k) = nI (v 9) := by rw [mF_sF, if_neg (by omega)]; exact hI.ms
        have g21 : mF (sF M 326 (c + 5) dd) 321 (c + 5) = nI (v 10) := by rw [mF_sF, if_neg (by omega), ← hP.cw]; exact hI.cw
        have g20 : mF (sF M 326 (c + 5) dd) 320 (c + 5) = nI (v 9) := by rw [mF_sF, if_neg (by omega), ← hP.ms]; exact hI.ms
        rw [gI_ok hA1, ob_some, gI_ok hA1, ob_some, pF_ok hA1, ob_some, gI_ok hM1, ob_some, gI_ok hM1, ob_some, pF_ok hM1, ob_some, g79, g78, g21, g20, nI_add, show (65535 : Int32) = nI 65535 from rfl, jmin_nI (by omega) (by omega)]
        unfold fX5_countDuplicate_L36
        have e5 : mF (sF (sF M 326 (c + 5) dd) 321 (c + 5) (nI (min 65535 ((v 10) + (v 9))))) 326 (c + 5) = dd := by rw [mF_sF, if_neg (by omega)]; exact e2
        rw [gI_ok (by rw [ok_sF]; exact hM1), ob_some, e5, if_neg q3, rN0]
        refine ⟨_, _, min 65535 ((v 10) + (v 9)), rfl, rfl, (FF.s _ (Or.inr rfl)).tr (FF.s _ (Or.inl rfl)), (FF.s _ (Or.inr rfl)).tr (FF.s _ (Or.inl rfl)), ⟨by rw [mF_sF, if_neg (by omega)]; exact e1, e5⟩, ⟨by rw [mF_sF, if_pos ⟨rfl, rfl⟩], by rw [mF_sF, if_pos ⟨rfl, rfl⟩]⟩, by omega, by omega⟩
    have FA' : ∀ g, ¬ (g = 779 ∨ g = 792) → mF A2 g (342 + 4 * k) = mF A g (342 + 4 * k) := fun g hg => g3.2.2.2.2 g _ (fun e => hg e.1)
    have FC' : ∀ g, ¬ 100000 ≤ g → mF M2 g c = mF M g c := fun g _ => g4.2.2.2.2 g _ (by omega)
    have FR' : ∀ g, ¬ 100000 ≤ g → mF M2 g (c + 2) = mF M g (c + 2) := fun g _ => g4.2.2.2.2 g _ (by omega)
    have FP' : ∀ g, ¬ (g = 321 ∨ g = 326) → mF M2 g (c + 5) = mF M g (c + 5) := fun g hg => g4.2.2.2.2 g _ (fun e => hg e.1)
    have hdA : mA A2 (343 + 4 * k) = mA A (343 + 4 * k) := by rw [g3.2.2.2.1]
    have hdM : mA M2 (c + 1) = mA M (c + 1) := by rw [g4.2.2.2.1]
    have hq0 : CE A2 M2 k c := by
      refine CE.mk ?_ ?_ ?_ ?_ ?_ ?_ ?_ ?_ ?_ ?_ ?_ ?_ ?_ ?_ ?_ ?_ ?_ ?_
      · exact (FA' 768 (by omega)).trans (hE.st.trans (FC' 64 (by omega)).symm)
      · exact (FA' 769 (by omega)).trans (hE.ip.trans (FC' 65 (by omega)).symm)
      · exact (FA' 770 (by omega)).trans (hE.po.trans (FC' 66 (by omega)).symm)
      · exact (FA' 771 (by omega)).trans (hE.is.trans (FC' 67 (by omega)).symm)
      · exact (FA' 772 (by omega)).trans (hE.una.trans (FC' 68 (by omega)).symm)
      · exact (FA' 773 (by omega)).trans (hE.at'.trans (FC' 69 (by omega)).symm)
      · exact (FA' 774 (by omega)).trans (hE.max.trans (FC' 70 (by omega)).symm)
      · exact (FA' 775 (by omega)).trans (hE.wi.trans (FC' 71 (by omega)).symm)
      · exact (FA' 776 (by omega)).trans (hE.w1.trans (FC' 82 (by omega)).symm)
      · exact (FA' 777 (by omega)).trans (hE.w2.trans (FC' 83 (by omega)).symm)
      · exact (FA' 794 (by omega)).trans (hE.hl.trans (FC' 78 (by omega)).symm)
      · exact (FA' 796 (by omega)).trans (hE.bl.trans (FC' 76 (by omega)).symm)
      · rw [FA' 796 (by omega), FA' 795 (by omega), FC' 75 (by omega)]; exact hE.bp
      · exact (FA' 797 (by omega)).trans (hE.bg.trans (FC' 77 (by omega)).symm)
      · exact (FA' 798 (by omega)).trans (hE.cl.trans (FC' 74 (by omega)).symm)
      · rw [FA' 768 (by omega), FA' 812 (by omega), FC' 73 (by omega)]; exact hE.la
      · rw [FA' 768 (by omega), FA' 813 (by omega), FC' 72 (by omega)]; exact hE.li
      · rw [FA' 794 (by omega), hdA, hdM]; exact hE.hd
    have hq1 : CP A2 M2 k c := by
      refine CP.mk ?_ ?_ ?_ ?_ ?_ ?_ ?_ ?_ ?_ ?_ ?_ ?_
      · exact (FA' 778 (by omega)).trans (hP.ms.trans (FP' 320 (by omega)).symm)
      · exact g6.1.trans g6.2.symm
      · exact (FA' 780 (by omega)).trans (hP.ss.trans (FP' 322 (by omega)).symm)
      · exact (FA' 781 (by omega)).trans (hP.ro.trans (FP' 323 (by omega)).symm)
      · exact (FA' 791 (by omega)).trans (hP.tr.trans (FP' 325 (by omega)).symm)
      · exact g5.1.trans g5.2.symm
      · exact (FA' 786 (by omega)).trans (hP.re.trans (FP' 327 (by omega)).symm)
      · exact (FA' 785 (by omega)).trans (hP.ti.trans (FP' 328 (by omega)).symm)
      · rw [FA' 785 (by omega), FA' 787 (by omega), FA' 788 (by omega), FP' 329 (by omega), FP' 330 (by omega)]; exact hP.tn
      · exact (FA' 784 (by omega)).trans (hP.me.trans (FP' 331 (by omega)).symm)
      · rw [FA' 784 (by omega), FA' 782 (by omega), FA' 783 (by omega), FP' 332 (by omega), FP' 333 (by omega)]; exact hP.sv
      · rw [FA' 789 (by omega), FA' 790 (by omega), FP' 324 (by omega)]; exact hP.tm
    have hq2 : CI A2 k nw t im b0 (uv v 10 cw') := by
      refine CI.mk ?_ ?_ ?_ ?_ ?_ ?_ ?_ ?_ ?_ ?_ ?_ ?_ ?_ ?_ ?_ ?_ ?_ ?_ ?_ ?_ ?_ ?_ ?_ ?_ ?_ ?_ ?_ ?_ ?_ ?_ ?_ ?_ ?_ ?_ ?_ ?_
      · exact (FA' 797 (by omega)).trans hI.bg
      · exact (FA' 772 (by omega)).trans hI.una
      · exact (FA' 773 (by omega)).trans hI.at'
      · exact (FA' 774 (by omega)).trans hI.max
      · exact hI.ua
      · exact hI.am
      · exact hI.mL
      · exact (FA' 794 (by omega)).trans hI.hl
      · exact hI.hl1
      · exact (FA' 796 (by omega)).trans hI.bl
      · exact hI.bl1
      · rw [FA' 795 (by omega)]; exact hI.bp
      · exact (FA' 798 (by omega)).trans hI.cl
      · exact hI.cl1
      · exact (FA' 799 (by omega)).trans hI.fn
      · exact hI.fn1
      · exact hI.fnI
      · exact (FA' 778 (by omega)).trans hI.ms
      · exact hI.ms1
      · exact g6.1
      · exact g7
      · exact (FA' 780 (by omega)).trans hI.ss
      · exact hI.ss1
      · exact (FA' 781 (by omega)).trans hI.ro
      · exact hI.ro1
      · exact (FA' 775 (by omega)).trans hI.wi
      · exact hI.wi1
      · exact (FA' 789 (by omega)).trans hI.on
      · exact hI.on1
      · rw [FA' 790 (by omega)]; exact hI.tm
      · exact (FA' 785 (by omega)).trans hI.ti
      · exact hI.ti1
      · rw [FA' 787 (by omega), FA' 788 (by omega)]; exact hI.tn
      · exact (FA' 784 (by omega)).trans hI.me
      · exact hI.me1
      · rw [FA' 782 (by omega), FA' 783 (by omega)]; exact hI.sv
    have hq3 : CS A2 k nw b0 (uv v 10 cw') := by
      refine CS.mk ?_ ?_ ?_ ?_ ?_ ?_ ?_ ?_ ?_
      · exact (FA' 768 (by omega)).trans hS.st
      · exact hS.st1
      · rw [FA' 771 (by omega), FA' 786 (by omega)]; exact hS.s1
      · exact hS.sN1
      · exact hS.s27
      · exact hS.s358
      · exact hS.s46
      · rw [FA' 812 (by omega)]; exact hS.la
      · rw [FA' 813 (by omega)]; exact hS.si
    have hq4 : CR A2 M2 k c hd ft := by
      exact CR_congr (A := A) (M := M) (fun g hg => FA' g (by omega)) (by rw [g3.2.2.2.1]) (by rw [g3.2.2.2.1]) (fun g hg => FR' g (by omega)) (by rw [g4.2.2.2.1]) (by rw [g4.2.2.2.1]) h.cr
    obtain ⟨z1, z2, z3⟩ := TK_upd (u := 0) h (by omega) g3.1 g3.2.1 g3.2.2.1 g3.2.2.2.1 (fun f a hh => g3.2.2.2.2 f a (by omega)) g4.1 g4.2.1 g4.2.2.1 g4.2.2.2.1 (fun f a _ _ h5 => g4.2.2.2.2 f a (fun e => h5 e.2)) (A' := A2) (M' := M2) (hd' := hd) (ft' := ft) (b0' := b0) (v' := uv v 10 cw') hq0 hq1 hq2 hq3 hq4
    refine ⟨A2, M2, T, _, g1, fun K => ?_, Nat.le_refl _, by omega, z1, z2, z3, rfl, rfl, rfl⟩
    rw [g2, b2_some, if_pos rfl]
end Dup
