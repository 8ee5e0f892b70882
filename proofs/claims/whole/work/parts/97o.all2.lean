/-! ===== part 97o: all that may go goes, in both ===== -/
theorem Bd_same {R T : Nat → Prop} {A A' : Mm} (h : Bd R T A) (s : mS A' = mS A) (g : mG A' = mG A) (b : mB A' = mB A) (a : mA A' = mA A) : Bd R T A' := by
  obtain ⟨z1, z2, z3, z4, z5⟩ := h
  exact ⟨fun a cc hh ht => z1 a cc (by unfold okA at *; rw [s] at hh; exact hh) ht, fun f a d hh e => z2 f a d hh (by rw [g] at e; exact e), fun a i d hh e => z3 a i d hh (by rw [b] at e; exact e), by rw [s]; exact z4, fun x i hh => by rw [a]; exact z5 x i (by rw [s] at hh; exact hh)⟩
section All2
variable {A A' M M' : Mm}
/-- only fields of a connection are other, in both -/
theorem TK_upd {KN KS t u T k c nw im ig hd ft hd' ft' : Nat} {b0 b0' : Int32} {v v' : Nat → Nat} (h : TK A M KN KS t T im ig k c nw hd ft b0 v) (hu : t + u ≤ 1000) (aS : mS A' = mS A) (aG : mG A' = mG A) (aB : mB A' = mB A) (aA : mA A' = mA A) (aF : ∀ f a, ¬ (768 ≤ f ∧ f < 832 ∧ a = 342 + 4 * k) → mF A' f a = mF A f a) (xS : mS M' = mS M) (xG : mG M' = mG M) (xB : mB M' = mB M) (xA : mA M' = mA M) (xF : ∀ f a, a ≠ c → a ≠ c + 2 → a ≠ c + 5 → mF M' f a = mF M f a)
    (hE : CE A' M' k c) (hP : CP A' M' k c) (hI : CI A' k nw (t + u) im b0' v') (hS : CS A' k nw b0' v') (hr : CR A' M' k c hd' ft') : TK A' M' KN KS (t + u) T im ig k c nw hd' ft' b0' v' ∧ FCA k A A' ∧ FCM c M M' := by
  have hJ := h.jl
  refine ⟨TK.mk ?_ (Bd_same h.ba aS aG aB aA) (Bd_same h.bm xS xG xB xA) ?_ ?_ ?_ hE hP hI hS hr ?_ h.n2, ⟨aS, aG, aB, fun f a n => aF f a (fun e => n (by unfold PCa; omega)), fun a _ => by rw [aA], by rw [aF 1049 323 (by omega)]; exact Int32.le_refl _⟩, ⟨by rw [xS]; exact Nat.le_refl _, fun a _ => by rw [xS]; exact ⟨rfl, rfl⟩, fun f a _ _ => by rw [xG], fun a _ _ => by rw [xB], fun f a _ n => xF f a (fun e => n (by unfold PCx; omega)) (fun e => n (by unfold PCx; omega)) (fun e => n (by unfold PCx; omega)), fun a _ _ => by rw [xA]⟩⟩
  · exact JL0_mono hu (JL0_cn hJ h.cn aS aG aB (fun g a hh => aF g a (fun e => by unfold JLf at hh; omega)) (fun a _ => by rw [aA]) xS xG xB (fun g a h1 h2 h3 _ => xF g a h1 h2 h3) (fun a _ _ _ _ _ _ _ => by rw [xA]))
  · intro i hi
    rw [aA, xA]; exact h.jn i hi
  · obtain ⟨z1, z2, z3, z4, z5, z6⟩ := h.ji
    unfold JI okA
    rw [xS, xG, xA, aA]
    exact ⟨z1, z2, z3, z4, z5, z6⟩
  · rw [show CnO M' c = CnO M c from by unfold CnO okA; rw [xS, xG]]
    exact h.cn
  · rw [aF _ _ (by omega)]; exact h.nw
theorem TK.wnow {KN KS t T k c nw im ig hd ft : Nat} {b0 : Int32} {v : Nat → Nat} (h : TK A M KN KS t T im ig k c nw hd ft b0 v) : (mF M 641 304) = nI nw := by
  obtain ⟨n, e1, e2, -⟩ := h.jl.2.2.2.2.1.2.2.2.2.1
  rw [e2, ← e1]; exact h.nw
theorem TK.xw {KN KS t T k c nw im ig hd ft : Nat} {b0 : Int32} {v : Nat → Nat} (h : TK A M KN KS t T im ig k c nw hd ft b0 v) : XW M := h.jl.2.1
theorem TK.rw' {KN KS t T k c nw im ig hd ft : Nat} {b0 : Int32} {v : Nat → Nat} (h : TK A M KN KS t T im ig k c nw hd ft b0 v) : RW A := h.jl.1
/-- fields that the sending of data may change -/
def SSd (g : Nat) : Prop := g = 768 ∨ g = 773 ∨ g = 774 ∨ g = 785 ∨ g = 787 ∨ g = 788 ∨ g = 789 ∨ g = 790 ∨ g = 799 ∨ g = 805 ∨ g = 807
/-- nothing more may go: is the window to be asked -/
theorem sp_tail (fu : Nat) {KN KS t T k c nw im ig hd ft m : Nat} {b0 : Int32} {v : Nat → Nat} (h : TK A M KN KS t T im ig k c nw hd ft b0 v) (hk : k < 16) :
    ∃ A' M' v', fX16_sendAll_L17 fu (m + 1) 323 (some (342 + 4 * k)) 0 A = some A' ∧ fX9_sendWhatMay_L53 fu 317 (some c) M = some M' ∧ TK A' M' KN KS t T im ig k c nw hd ft b0 v' ∧ FCA k A A' ∧ FCM c M M' ∧ (∀ g, ¬ SSd g → g < 896 → mF A' g (342 + 4 * k) = mF A g (342 + 4 * k)) ∧ (mF A' 768 (342 + 4 * k)) = (mF A 768 (342 + 4 * k)) := by
  have hI := h.ci
  have hE := h.ce
  have hP := h.cp
  have hC := h.cn
  have c1 := hC.1
  have c5 := hC.2.2.2.2.2.2.2.2.2.2.2.2.2
  have g81 := hC.2.2.2.1
  have hA := rw_cnO h.rw' k hk
  have hW := h.xw
  have hlA := m_left fu h.rw' hk hI
  have hlX := x_left fu c1 hE hI
  have b1 := hI.hl1
  have b2' := hI.bl1
  have hcl1 := hI.cl1
  have l31 : lfN v < 2 ^ 31 := by unfold lfN; omega
  have same : ∃ A' M' v', some A = some A' ∧ some M = some M' ∧ TK A' M' KN KS t T im ig k c nw hd ft b0 v' ∧ FCA k A A' ∧ FCM c M M' ∧ (∀ g, ¬ SSd g → g < 896 → mF A' g (342 + 4 * k) = mF A g (342 + 4 * k)) ∧ (mF A' 768 (342 + 4 * k)) = (mF A 768 (342 + 4 * k)) := ⟨A, M, v, rfl, rfl, h, FB.rf, FM.rf, fun _ _ _ => rfl, rfl⟩
  unfold fX9_sendWhatMay_L53
  rw [fX16_sendAll_L17, if_pos rfl, gI_ok hA, ob_some, rc_ok hA, ob_some, hlA, b2_some, rc_ok c1, ob_some, hlX, b2_some]
  by_cases l0 : lfN v = 0
  · rw [if_pos (by rw [l0]; decide), if_pos (by rw [l0]; decide)]
    exact same
  · rw [if_neg (nI_nle (by omega) l31), if_neg (nI_nle (by omega) l31)]
    simp only [gI_ok hA, gI_ok c1, ob_some, ← hE.at', ← hE.una, ← hE.wi]
    by_cases e1 : (mF A 773 (342 + 4 * k)) = (mF A 772 (342 + 4 * k))
    · rw [if_pos e1, if_pos e1]
      by_cases e2 : (mF A 775 (342 + 4 * k)) = 0
      · rw [if_pos e2, if_pos e2]
        simp only [gR_ok c1, g81, gI_ok c5, ob_some]
        have hon : (v 14) ≤ 1 := hI.on1
        rcases hP.tm with ⟨q1, q2⟩ | ⟨q1, q2⟩
        · rw [if_pos q1, if_pos q2, rc_ok (rw_ok323 h.rw'), ob_some, gR_ok (xw_ok317 hW), ob_some, xw_g576_317 hW, gI_ok (xw_ok304 hW), ob_some, pF_ok c5, ob_some]
          unfold fX16_timerSet
          rw [pZ_ok hA (Or.inr rfl), ob_some, gI_ok (by rw [ok_sF]; exact rw_ok323 h.rw'), ob_some, gI_ok (by rw [ok_sF]; exact hA), ob_some, pF_ok (by rw [ok_sF]; exact hA), ob_some, ob_some, mF_sF, if_neg (by omega), mF_sF, if_neg (by omega)]
          rw [h.nw, h.wnow, hI.ro, ← hP.ro, hI.ro, nI_add]
          have eu : (v 2) = (v 1) := by
            have ham := hI.am
            have hua := hI.ua
            have hmL := hI.mL
            rw [hI.at', hI.una] at e1
            exact b0_inj (by omega) (by omega) e1
          have von : (v 14) = 0 := by
            have := hI.on
            rw [q1] at this
            exact ((nI_eq (a := 0) (by decide) (by omega)).mp this).symm
          have vti : (v 16) = 0 := by
            have := hI.ti1
            by_cases q : (v 16) = 1
            · have := (hI.tn q).1; omega
            · omega
          refine ⟨_, _, fun i => if i = 14 then 1 else if i = 15 then nw + (v 12) else v i, rfl, rfl, ?_⟩
          have hro1 := hI.ro1
          have hlf : (v 1) < 1 + (v 4) + (v 5) + (v 7) := by unfold lfN at l0; omega
          generalize hA' : sF (sF A 789 (342 + 4 * k) 1) 790 (342 + 4 * k) (nI (nw + (v 12))) = A'
          generalize hM' : sF M 324 (c + 5) (nI (nw + (v 12))) = M'
          have FA' : ∀ g, ¬ (g = 789 ∨ g = 790) → mF A' g (342 + 4 * k) = mF A g (342 + 4 * k) := fun g hg => by
            subst hA'
            rw [mF_sF, mF_sF, if_neg (fun e => hg (Or.inr e.1)), if_neg (fun e => hg (Or.inl e.1))]
          have FAo : ∀ g a, a ≠ 342 + 4 * k → mF A' g a = mF A g a := fun g a hg => by
            subst hA'
            rw [mF_sF, mF_sF, if_neg (fun e => hg e.2), if_neg (fun e => hg e.2)]
          have FMo : ∀ g a, ¬ (g = 324 ∧ a = c + 5) → mF M' g a = mF M g a := fun g a hg => by
            subst hM'
            rw [mF_sF, if_neg hg]
          have FC' : ∀ g, ¬ 100000 ≤ g → mF M' g c = mF M g c := fun g _ => FMo g _ (by omega)
          have FR' : ∀ g, ¬ 100000 ≤ g → mF M' g (c + 2) = mF M g (c + 2) := fun g _ => FMo g _ (by omega)
          have FP' : ∀ g, ¬ g = 324 → mF M' g (c + 5) = mF M g (c + 5) := fun g hg => FMo g _ (fun e => hg e.1)
          have e89 : mF A' 789 (342 + 4 * k) = 1 := by
            subst hA'
            rw [mF_sF, if_neg (by omega), mF_sF, if_pos ⟨rfl, rfl⟩]
          have e90 : mF A' 790 (342 + 4 * k) = nI (nw + (v 12)) := by
            subst hA'
            rw [mF_sF, if_pos ⟨rfl, rfl⟩]
          have e324 : mF M' 324 (c + 5) = nI (nw + (v 12)) := by
            subst hM'
            rw [mF_sF, if_pos ⟨rfl, rfl⟩]
          have aS : mS A' = mS A := by subst hA'; rfl
          have aG : mG A' = mG A := by subst hA'; rfl
          have aB : mB A' = mB A := by subst hA'; rfl
          have aA : mA A' = mA A := by subst hA'; rfl
          have xS : mS M' = mS M := by subst hM'; rfl
          have xG : mG M' = mG M := by subst hM'; rfl
          have xB : mB M' = mB M := by subst hM'; rfl
          have xA : mA M' = mA M := by subst hM'; rfl
          have hdA : mA A' (343 + 4 * k) = mA A (343 + 4 * k) := by rw [aA]
          have hdM : mA M' (c + 1) = mA M (c + 1) := by rw [xA]
          have hq0 : CE A' M' k c := by
            refine CE.mk ?_ ?_ ?_ ?_ ?_ ?_ ?_ ?_ ?_ ?_ ?_ ?_ ?_ ?_ ?_ ?_ ?_ ?_
            · exact (FA' 768 (by omega)).trans (hE.st.trans (FC' 64 (by omega)).symm)
            · exact (FA' 769 (by omega)).trans (hE.ip.trans (FC' 65 (by omega)).symm)
            · exact (FA' 770 (by omega)).trans (hE.po.trans (FC' 66 (by omega)).symm)
            · exact (FA' 771 (by omega)).trans (hE.is.trans (FC' 67 (by omega)).symm)
            · exact (FA' 772 (by omega)).trans (hE.una.trans (FC' 68 (by omega)).symm)
            · exact (FA' 773 (by omega)).trans (hE.at'.trans (FC' 69 (by omega)).symm)
            · exact (FA' 774 (by omega)).trans (hE.max.trans (FC' 70 (by omega)).symm)
            · exact (FA' 775 (by omega)).trans (hE.wi.trans (FC' 71 (by omega)).symm)
            · exact (FA' 776 (by omega)).trans (hE.w1.trans (FC' 82 (by omega)).symm)
            · exact (FA' 777 (by omega)).trans (hE.w2.trans (FC' 83 (by omega)).symm)
            · exact (FA' 794 (by omega)).trans (hE.hl.trans (FC' 78 (by omega)).symm)
            · exact (FA' 796 (by omega)).trans (hE.bl.trans (FC' 76 (by omega)).symm)
            · rw [FA' 796 (by omega), FA' 795 (by omega), FC' 75 (by omega)]; exact hE.bp
            · exact (FA' 797 (by omega)).trans (hE.bg.trans (FC' 77 (by omega)).symm)
            · exact (FA' 798 (by omega)).trans (hE.cl.trans (FC' 74 (by omega)).symm)
            · rw [FA' 768 (by omega), FA' 812 (by omega), FC' 73 (by omega)]; exact hE.la
            · rw [FA' 768 (by omega), FA' 813 (by omega), FC' 72 (by omega)]; exact hE.li
            · rw [FA' 794 (by omega), hdA, hdM]; exact hE.hd
          have hq1 : CP A' M' k c := by
            refine CP.mk ?_ ?_ ?_ ?_ ?_ ?_ ?_ ?_ ?_ ?_ ?_ ?_
            · exact (FA' 778 (by omega)).trans (hP.ms.trans (FP' 320 (by omega)).symm)
            · exact (FA' 779 (by omega)).trans (hP.cw.trans (FP' 321 (by omega)).symm)
            · exact (FA' 780 (by omega)).trans (hP.ss.trans (FP' 322 (by omega)).symm)
            · exact (FA' 781 (by omega)).trans (hP.ro.trans (FP' 323 (by omega)).symm)
            · exact (FA' 791 (by omega)).trans (hP.tr.trans (FP' 325 (by omega)).symm)
            · exact (FA' 792 (by omega)).trans (hP.du.trans (FP' 326 (by omega)).symm)
            · exact (FA' 786 (by omega)).trans (hP.re.trans (FP' 327 (by omega)).symm)
            · exact (FA' 785 (by omega)).trans (hP.ti.trans (FP' 328 (by omega)).symm)
            · rw [FA' 785 (by omega), FA' 787 (by omega), FA' 788 (by omega), FP' 329 (by omega), FP' 330 (by omega)]; exact hP.tn
            · exact (FA' 784 (by omega)).trans (hP.me.trans (FP' 331 (by omega)).symm)
            · rw [FA' 784 (by omega), FA' 782 (by omega), FA' 783 (by omega), FP' 332 (by omega), FP' 333 (by omega)]; exact hP.sv
            · exact Or.inr ⟨e89, e90.trans e324.symm⟩
          have hq2 : CI A' k nw t im b0 (fun i => if i = 14 then 1 else if i = 15 then nw + (v 12) else v i) := by
            refine CI.mk ?_ ?_ ?_ ?_ ?_ ?_ ?_ ?_ ?_ ?_ ?_ ?_ ?_ ?_ ?_ ?_ ?_ ?_ ?_ ?_ ?_ ?_ ?_ ?_ ?_ ?_ ?_ ?_ ?_ ?_ ?_ ?_ ?_ ?_ ?_ ?_
            · exact (FA' 797 (by omega)).trans hI.bg
            · exact (FA' 772 (by omega)).trans hI.una
            · exact (FA' 773 (by omega)).trans hI.at'
            · exact (FA' 774 (by omega)).trans hI.max
            · exact hI.ua
            · exact hI.am
            · exact hI.mL
            · exact (FA' 794 (by omega)).trans hI.hl
            · exact hI.hl1
            · exact (FA' 796 (by omega)).trans hI.bl
            · exact hI.bl1
            · rw [FA' 795 (by omega)]; exact hI.bp
            · exact (FA' 798 (by omega)).trans hI.cl
            · exact hI.cl1
            · exact (FA' 799 (by omega)).trans hI.fn
            · exact hI.fn1
            · exact hI.fnI
            · exact (FA' 778 (by omega)).trans hI.ms
            · exact hI.ms1
            · exact (FA' 779 (by omega)).trans hI.cw
            · exact hI.cw1
            · exact (FA' 780 (by omega)).trans hI.ss
            · exact hI.ss1
            · exact (FA' 781 (by omega)).trans hI.ro
            · exact hI.ro1
            · exact (FA' 775 (by omega)).trans hI.wi
            · exact hI.wi1
            · exact e89
            · exact Nat.le_refl _
            · exact fun _ => ⟨e90, by show nw ≤ nw + (v 12); omega, by show nw + (v 12) ≤ nw + 60000; omega, fun _ => hlf⟩
            · exact (FA' 785 (by omega)).trans hI.ti
            · exact hI.ti1
            · exact fun hh => absurd (show (v 16) = 1 from hh) (by omega)
            · exact (FA' 784 (by omega)).trans hI.me
            · exact hI.me1
            · rw [FA' 782 (by omega), FA' 783 (by omega)]; exact hI.sv
          have hq3 : CS A' k nw b0 (fun i => if i = 14 then 1 else if i = 15 then nw + (v 12) else v i) := by
            refine CS.mk ?_ ?_ ?_ ?_ ?_ ?_ ?_ ?_ ?_
            · exact (FA' 768 (by omega)).trans h.cs.st
            · exact h.cs.st1
            · rw [FA' 771 (by omega), FA' 786 (by omega)]; exact h.cs.s1
            · exact h.cs.sN1
            · exact h.cs.s27
            · exact h.cs.s358
            · exact h.cs.s46
            · rw [FA' 812 (by omega)]; exact h.cs.la
            · rw [FA' 813 (by omega)]; exact h.cs.si
          have hq4 : CR A' M' k c hd ft := by
            exact CR_congr (A := A) (M := M) (fun g hg => FA' g (by omega)) (by rw [aA]) (by rw [aA]) (fun g hg => FR' g (by omega)) (by rw [xA]) (by rw [xA]) h.cr
          obtain ⟨z1, z2, z3⟩ := TK_upd (u := 0) h (by obtain ⟨_, _, _, _, _, q, -⟩ := h.jl.2.2.2.2.2.2.2; omega) aS aG aB aA (fun f a hh => by
            by_cases q : a = 342 + 4 * k
            · subst q
              exact FA' f (by omega)
            · exact FAo f a q) xS xG xB xA (fun f a _ _ h5 => FMo f a (fun e => h5 e.2)) (A' := A') (M' := M') (hd' := hd) (ft' := ft) (b0' := b0) (v' := fun i => if i = 14 then 1 else if i = 15 then nw + (v 12) else v i) hq0 hq1 hq2 hq3 hq4
          exact ⟨z1, z2, z3, fun g hg _ => FA' g (fun e => hg (by unfold SSd; omega)), FA' _ (by omega)⟩
        · rw [if_neg (by rw [q1]; decide), if_neg ?_]
          · exact same
          · rw [← q2]
            have von : (v 14) = 1 := by
              have := hI.on
              rw [q1] at this
              exact ((nI_eq (a := 1) (by decide) (by omega)).mp this).symm
            obtain ⟨t1, t2, t3, -⟩ := hI.tm von
            rw [t1]
            have := h.n2
            intro e
            have := (nI_eq (b := 2147483647) (by omega) (by decide)).mp e
            omega
      · rw [if_neg e2, if_neg e2]
        exact same
    · rw [if_neg e1, if_neg e1]
      exact same
theorem lf_st {k nw t im : Nat} {b0 : Int32} {v : Nat → Nat} (hI : CI A k nw t im b0 v) (hS : CS A k nw b0 v) (h : 1 ≤ lfN v) : sendSt (v 0) ∧ 1 ≤ (v 2) := by
  have h1 := hS.st1
  have ham := hI.am
  have hua := hI.ua
  have hcl := hI.cl1
  unfold lfN at h
  have n1 : (v 0) ≠ 1 := fun e => by
    obtain ⟨-, q2, -, q4, q5, q6, -⟩ := hS.s1 e
    omega
  have n46 : ¬ ((v 0) = 4 ∨ (v 0) = 6) := fun e => by
    obtain ⟨q1, q2⟩ := hS.s46 e
    omega
  have := hS.sN1 n1
  unfold sendSt
  omega
theorem sp_loop (fu : Nat) (hfu : 4000 ≤ fu) {KN KS t k c nw im ig hd ft : Nat} {b0 : Int32} (hk : k < 16) : ∀ (n : Nat) (A M : Mm) (T j m m2 : Nat) (v : Nat → Nat), TK A M KN KS t T im ig k c nw hd ft b0 v → lfN v ≤ n → n ≤ m → n ≤ m2 → T + n < 2 ^ 30 → j + n < 100000 →
    ∃ A' M' T' v', fX16_sendAll_L17 fu (m + 2) 323 (some (342 + 4 * k)) (if lfN v = 0 then 0 else 1) A = some A' ∧ fX9_sendWhatMay_L10 fu (m2 + 1) 317 (some c) (nI j) M = some M' ∧ T ≤ T' ∧ T' ≤ T + n ∧ TK A' M' KN KS t T' im ig k c nw hd ft b0 v' ∧ FCA k A A' ∧ FCM c M M' ∧ (∀ g, ¬ SSd g → g < 896 → mF A' g (342 + 4 * k) = mF A g (342 + 4 * k)) ∧ ((mF A' 768 (342 + 4 * k)) = (mF A 768 (342 + 4 * k)) ∨ (mF A 798 (342 + 4 * k)) ≠ 0) := by
  intro n
  induction n with
  | zero =>
    intro A M T j m m2 v h hn hm hm2 hT hj
    have hI := h.ci
    have c1 := h.cn.1
    obtain ⟨A', M', v', r1, r2, r3, r4, r5, r6, r7⟩ := sp_tail fu (m := m + 1) h hk
    refine ⟨A', M', T, v', ?_, ?_, Nat.le_refl _, Nat.le_refl _, r3, r4, r5, r6, Or.inl r7⟩
    · rw [if_pos (by omega)]; exact r1
    · rw [fX9_sendWhatMay_L10, if_neg (show ¬ (1000000 : Int32) ≤ nI j from nI_ge (b := 1000000) (by omega) (by decide)), rc_ok c1, ob_some, (x_mayGo fu h.cn h.ce h.cp.ms h.cp.cw hI).1 (by omega), b2_some, if_neg (by decide)]
      exact r2
  | succ n ih =>
    intro A M T j m m2 v h hn hm hm2 hT hj
    have hI := h.ci
    have c1 := h.cn.1
    have hR := h.rw'
    have hA := rw_cnO hR k hk
    have jlt : ¬ (1000000 : Int32) ≤ nI j := nI_ge (b := 1000000) (by omega) (by decide)
    by_cases l0 : lfN v = 0
    · obtain ⟨A', M', T', v', r1, r2, r3, r4, r5⟩ := ih A M T j m m2 v h (by omega) (by omega) (by omega) (by omega) (by omega)
      exact ⟨A', M', T', v', r1, r2, r3, by omega, r5⟩
    · have l1 : 1 ≤ lfN v := by omega
      obtain ⟨hst, ha1⟩ := lf_st hI h.cs l1
      obtain ⟨g1, g2⟩ := m_L17 fu (m + 1) hR hk hI l1
      obtain ⟨-, y1, y2⟩ := x_mayGo fu h.cn h.ce h.cp.ms h.cp.cw hI
      rw [if_neg l0]
      have stop : fX16_sendAll_L17 fu (m + 1 + 1) 323 (some (342 + 4 * k)) 1 A = fX16_sendAll_L17 fu (m + 1) 323 (some (342 + 4 * k)) 0 A → fX1_mayGo fu c M = some (0, M) → ∃ A' M' T' v', fX16_sendAll_L17 fu (m + 2) 323 (some (342 + 4 * k)) 1 A = some A' ∧ fX9_sendWhatMay_L10 fu (m2 + 1) 317 (some c) (nI j) M = some M' ∧ T ≤ T' ∧ T' ≤ T + (n + 1) ∧ TK A' M' KN KS t T' im ig k c nw hd ft b0 v' ∧ FCA k A A' ∧ FCM c M M' ∧ (∀ g, ¬ SSd g → g < 896 → mF A' g (342 + 4 * k) = mF A g (342 + 4 * k)) ∧ ((mF A' 768 (342 + 4 * k)) = (mF A 768 (342 + 4 * k)) ∨ (mF A 798 (342 + 4 * k)) ≠ 0) := fun e1 e2 => by
        obtain ⟨A', M', v', r1, r2, r3, r4, r5, r6, r7⟩ := sp_tail fu (m := m) h hk
        refine ⟨A', M', T, v', e1.trans r1, ?_, Nat.le_refl _, by omega, r3, r4, r5, r6, Or.inl r7⟩
        rw [fX9_sendWhatMay_L10, if_neg jlt, rc_ok c1, ob_some, e2, b2_some, if_neg (by decide)]
        exact r2
      by_cases q : (v 2) - (v 1) < min (v 10) (v 13)
      · obtain ⟨g3, g4⟩ := g2 q
        obtain ⟨y3, y4⟩ := y2 l1 q
        have hr1 : 1 ≤ min (v 10) (v 13) - ((v 2) - (v 1)) := by omega
        generalize min (v 10) (v 13) - ((v 2) - (v 1)) = r at g3 g4 y3 y4 hr1
        by_cases hg : goN v r
        · have hs := dd_seg l1 hr1 hI.ms1.1 hI.cl1 ha1 hI.am
          have hp := dd_pos l1 hr1 hI.ms1.1 hI.cl1
          have hs' := hs
          obtain ⟨f1, f2, f3, f4, f5, f6, f7⟩ := hs'
          have hms := hI.ms1
          obtain ⟨A1, M1, T1, v1, r1, r2, r3, r4, r5, r6, r7, r8, r9⟩ := sp_one fu hfu h (by omega) hk hst hs
          have hR1 := r5.rw'
          have hA1 := rw_cnO hR1 k hk
          have hlA := m_left fu hR1 hk r5.ci
          have hadv := r6
          obtain ⟨a0, a1, a2, a3, a4, a5, a6, a7, -⟩ := r6
          have hlf : lfN v1 + (dnN v r + dfN v r) = lfN v := by
            unfold lfN at *
            rw [a4, a5, a7, a2]
            by_cases w : dfN v r = 1
            · have := f7 w; omega
            · have := f4; omega
          obtain ⟨A', M', T', v', s1, s2, s3, s4, s5, s6, s7, s8, s9⟩ := ih A1 M1 T1 (j + 1) (m - 1) (m2 - 1) v1 r5 (by omega) (by omega) (by omega) (by omega) (by omega)
          have em : m - 1 + 2 = m + 1 := by omega
          have em1 : m2 - 1 + 1 = m2 := by omega
          rw [em] at s1
          rw [em1] at s2
          refine ⟨A', M', T', v', ?_, ?_, by omega, by omega, s5, r7.tr s6, r8.tr s7, fun g h1 h2 => (s8 g h1 h2).trans (r9 g (fun e => h1 (by unfold SSd; exact e)) h2), ?_⟩
          · rw [g3 hg, r1, ob_some]
            unfold fX16_sendAll_L152 fX16_sendAll_L171 fX16_sendAll_L172
            rw [if_neg (by decide), gI_ok hA1, ob_some, rc_ok hA1, ob_some, hlA, b2_some]
            by_cases w : lfN v1 = 0
            · rw [if_pos (by rw [w]; decide)]
              rw [if_pos w] at s1
              exact s1
            · have : lfN v1 < 2 ^ 31 := by have := hI.hl1; have := hI.bl1; have := hI.cl1; unfold lfN at hlf ⊢; omega
              rw [if_neg (nI_nle (by omega) this)]
              rw [if_neg w] at s1
              exact s1
          · rw [fX9_sendWhatMay_L10, if_neg jlt, rc_ok c1, ob_some, y3 hg, b2_some, if_pos (show (0 : Int32) < nI (dnN v r + dfN v r) from nI_lt (a := 0) (by omega) (by omega)), gI_ok c1, ob_some, rc_ok (xw_ok317 h.xw), ob_some]
            cases hsp : fX9_sendPart fu 317 (some c) (mF M 69 c) (nI (dnN v r + dfN v r)) M with
            | none => rw [hsp] at r2; cases r2
            | some M6 =>
              rw [hsp, ob_some] at r2
              rw [ob_some]
              cases hrc : rc M6 1 (some c) with
              | none => rw [hrc] at r2; cases r2
              | some q7 =>
                rw [hrc, ob_some] at r2
                rw [ob_some, r2, ob_some, nI_1]
                exact s2
          · by_cases w : (v 7) = 0
            · left
              have d0 : dfN v r = 0 := by
                by_cases w2 : dfN v r = 1
                · have := f7 w2; omega
                · omega
              rcases s9 with e | e
              · rw [e, r5.cs.st, a0, h.cs.st, d0]
                unfold nst
                rw [if_neg (by omega)]
              · exfalso
                apply e
                rw [r5.ci.cl, a7, w]
                rfl
            · right
              have := hI.cl1
              rw [hI.cl, show (v 7) = 1 by omega]
              decide
        · exact stop (g4 hg) (y4 hg)
      · exact stop (g1 (by omega)) (y1 l1 (by omega))
/-- all that may go goes, in both -/
theorem sp_sendAll (fu : Nat) (hfu : 100000 ≤ fu) {KN KS t T k c nw im ig hd ft : Nat} {b0 : Int32} {v : Nat → Nat} (h : TK A M KN KS t T im ig k c nw hd ft b0 v) (hk : k < 16) (hT : T + 70000 < 2 ^ 30) :
    ∃ A' M' T' v', fX16_sendAll fu 323 (some (342 + 4 * k)) A = some A' ∧ fX9_sendWhatMay fu 317 (some c) M = some M' ∧ T ≤ T' ∧ T' ≤ T + lfN v ∧ TK A' M' KN KS t T' im ig k c nw hd ft b0 v' ∧ FCA k A A' ∧ FCM c M M' ∧ (∀ g, ¬ SSd g → g < 896 → mF A' g (342 + 4 * k) = mF A g (342 + 4 * k)) ∧ ((mF A' 768 (342 + 4 * k)) = (mF A 768 (342 + 4 * k)) ∨ (mF A 798 (342 + 4 * k)) ≠ 0) := by
  have hI := h.ci
  have hA := rw_cnO h.rw' k hk
  have b1 := hI.hl1
  have b2' := hI.bl1
  have hcl1 := hI.cl1
  have l70 : lfN v ≤ 66000 := by unfold lfN; omega
  have hlA := m_left fu h.rw' hk hI
  obtain ⟨A', M', T', v', s1, s2, s3⟩ := sp_loop fu (by omega) hk (lfN v) A M T 0 (fu - 2) (fu - 1) v h (Nat.le_refl _) (by omega) (by omega) (by omega) (by omega)
  rw [show fu - 2 + 2 = fu by omega] at s1
  rw [show fu - 1 + 1 = fu by omega] at s2
  refine ⟨A', M', T', v', ?_, ?_, s3⟩
  · unfold fX16_sendAll fX16_sendAll_L16
    rw [gI_ok hA, ob_some, rc_ok hA, ob_some, hlA, b2_some]
    by_cases w : lfN v = 0
    · rw [if_pos (by rw [w]; decide)]
      rw [if_pos w] at s1
      exact s1
    · rw [if_neg (nI_nle (by omega) (by omega))]
      rw [if_neg w] at s1
      exact s1
  · unfold fX9_sendWhatMay
    rw [gI_ok h.cn.1, ob_some, if_neg]
    · exact s2
    · rw [← h.ce.st, h.cs.st]
      have := h.cs.st1
      exact nI_ne0 (by omega) (by omega)
end All2
