/-! ===== part 97s: an acknowledgement is looked at, in both ===== -/
/-- all but a connection's numbers -/
def TB (A M : Mm) (KN KS t T im ig c nw : Nat) : Prop := (JL0 KN KS t T A M) ∧ (Bd RM TM A) ∧ (Bd RX TX M) ∧ (JN A M) ∧ (JI im ig A M) ∧ (CnO M c) ∧ ((mF A 1034 323) = nI nw) ∧ (nw ≤ 2000000000) ∧ True
theorem TB.jl {A M : Mm} {KN KS t T im ig c nw : Nat} (h : TB A M KN KS t T im ig c nw) : JL0 KN KS t T A M := h.1
theorem TB.ba {A M : Mm} {KN KS t T im ig c nw : Nat} (h : TB A M KN KS t T im ig c nw) : Bd RM TM A := h.2.1
theorem TB.bm {A M : Mm} {KN KS t T im ig c nw : Nat} (h : TB A M KN KS t T im ig c nw) : Bd RX TX M := h.2.2.1
theorem TB.jn {A M : Mm} {KN KS t T im ig c nw : Nat} (h : TB A M KN KS t T im ig c nw) : JN A M := h.2.2.2.1
theorem TB.ji {A M : Mm} {KN KS t T im ig c nw : Nat} (h : TB A M KN KS t T im ig c nw) : JI im ig A M := h.2.2.2.2.1
theorem TB.cn {A M : Mm} {KN KS t T im ig c nw : Nat} (h : TB A M KN KS t T im ig c nw) : CnO M c := h.2.2.2.2.2.1
theorem TB.nw {A M : Mm} {KN KS t T im ig c nw : Nat} (h : TB A M KN KS t T im ig c nw) : (mF A 1034 323) = nI nw := h.2.2.2.2.2.2.1
theorem TB.n2 {A M : Mm} {KN KS t T im ig c nw : Nat} (h : TB A M KN KS t T im ig c nw) : nw ≤ 2000000000 := h.2.2.2.2.2.2.2.1
theorem TB.mk {A M : Mm} {KN KS t T im ig c nw : Nat} (jl_ : JL0 KN KS t T A M) (ba_ : Bd RM TM A) (bm_ : Bd RX TX M) (jn_ : JN A M) (ji_ : JI im ig A M) (cn_ : CnO M c) (nw_ : (mF A 1034 323) = nI nw) (n2_ : nw ≤ 2000000000) : TB A M KN KS t T im ig c nw := ⟨jl_, ba_, bm_, jn_, ji_, cn_, nw_, n2_, trivial⟩
/-- what belongs to its state while an acknowledgement is looked at -/
def CW (A : Mm) (k nw : Nat) (b0 : Int32) (v : Nat → Nat) : Prop := ((mF A 768 (342 + 4 * k)) = nI (v 0)) ∧ (2 ≤ (v 0) ∧ (v 0) ≤ 8) ∧ (1 ≤ (v 1)) ∧ ((v 0) = 2 ∨ (v 0) = 7 → (v 8) = 0) ∧ ((v 0) = 3 ∨ (v 0) = 5 ∨ (v 0) = 8 → (v 8) = 1) ∧ ((v 0) = 4 ∨ (v 0) = 6 → (v 8) = 1 ∧ (v 1) = (v 4) + (v 5) + 2) ∧ ((mF A 812 (342 + 4 * k)) = nI (v 22) ∧ (v 22) ≤ nw ∧ ((v 0) = 2 → (v 7) = 0 → (v 1) = (v 3) → (v 2) = 1 + (v 4) + (v 5) → nw ≤ (v 22) + 30000)) ∧ ((v 0) = 4 ∨ (v 0) = 6 → (mF A 813 (342 + 4 * k)) = nI (v 23) ∧ (v 23) ≤ nw ∧ nw ≤ (v 23) + 60000) ∧ True
theorem CW.st {A : Mm} {k nw : Nat} {b0 : Int32} {v : Nat → Nat} (h : CW A k nw b0 v) : (mF A 768 (342 + 4 * k)) = nI (v 0) := h.1
theorem CW.st1 {A : Mm} {k nw : Nat} {b0 : Int32} {v : Nat → Nat} (h : CW A k nw b0 v) : 2 ≤ (v 0) ∧ (v 0) ≤ 8 := h.2.1
theorem CW.u1 {A : Mm} {k nw : Nat} {b0 : Int32} {v : Nat → Nat} (h : CW A k nw b0 v) : 1 ≤ (v 1) := h.2.2.1
theorem CW.s27 {A : Mm} {k nw : Nat} {b0 : Int32} {v : Nat → Nat} (h : CW A k nw b0 v) : (v 0) = 2 ∨ (v 0) = 7 → (v 8) = 0 := h.2.2.2.1
theorem CW.s358 {A : Mm} {k nw : Nat} {b0 : Int32} {v : Nat → Nat} (h : CW A k nw b0 v) : (v 0) = 3 ∨ (v 0) = 5 ∨ (v 0) = 8 → (v 8) = 1 := h.2.2.2.2.1
theorem CW.s46 {A : Mm} {k nw : Nat} {b0 : Int32} {v : Nat → Nat} (h : CW A k nw b0 v) : (v 0) = 4 ∨ (v 0) = 6 → (v 8) = 1 ∧ (v 1) = (v 4) + (v 5) + 2 := h.2.2.2.2.2.1
theorem CW.la {A : Mm} {k nw : Nat} {b0 : Int32} {v : Nat → Nat} (h : CW A k nw b0 v) : (mF A 812 (342 + 4 * k)) = nI (v 22) ∧ (v 22) ≤ nw ∧ ((v 0) = 2 → (v 7) = 0 → (v 1) = (v 3) → (v 2) = 1 + (v 4) + (v 5) → nw ≤ (v 22) + 30000) := h.2.2.2.2.2.2.1
theorem CW.si {A : Mm} {k nw : Nat} {b0 : Int32} {v : Nat → Nat} (h : CW A k nw b0 v) : (v 0) = 4 ∨ (v 0) = 6 → (mF A 813 (342 + 4 * k)) = nI (v 23) ∧ (v 23) ≤ nw ∧ nw ≤ (v 23) + 60000 := h.2.2.2.2.2.2.2.1
theorem CW.mk {A : Mm} {k nw : Nat} {b0 : Int32} {v : Nat → Nat} (st_ : (mF A 768 (342 + 4 * k)) = nI (v 0)) (st1_ : 2 ≤ (v 0) ∧ (v 0) ≤ 8) (u1_ : 1 ≤ (v 1)) (s27_ : (v 0) = 2 ∨ (v 0) = 7 → (v 8) = 0) (s358_ : (v 0) = 3 ∨ (v 0) = 5 ∨ (v 0) = 8 → (v 8) = 1) (s46_ : (v 0) = 4 ∨ (v 0) = 6 → (v 8) = 1 ∧ (v 1) = (v 4) + (v 5) + 2) (la_ : (mF A 812 (342 + 4 * k)) = nI (v 22) ∧ (v 22) ≤ nw ∧ ((v 0) = 2 → (v 7) = 0 → (v 1) = (v 3) → (v 2) = 1 + (v 4) + (v 5) → nw ≤ (v 22) + 30000)) (si_ : (v 0) = 4 ∨ (v 0) = 6 → (mF A 813 (342 + 4 * k)) = nI (v 23) ∧ (v 23) ≤ nw ∧ nw ≤ (v 23) + 60000) : CW A k nw b0 v := ⟨st_, st1_, u1_, s27_, s358_, s46_, la_, si_, trivial⟩
section Ackn
variable {A A' M M' : Mm}
theorem TK.tb {KN KS t T k c nw im ig hd ft : Nat} {b0 : Int32} {v : Nat → Nat} (h : TK A M KN KS t T im ig k c nw hd ft b0 v) : TB A M KN KS t T im ig c nw := TB.mk h.jl h.ba h.bm h.jn h.ji h.cn h.nw h.n2
theorem TB.tk {KN KS t T k c nw im ig hd ft : Nat} {b0 : Int32} {v : Nat → Nat} (h : TB A M KN KS t T im ig c nw) (hE : CE A M k c) (hP : CP A M k c) (hI : CI A k nw t im b0 v) (hS : CS A k nw b0 v) (hr : CR A M k c hd ft) : TK A M KN KS t T im ig k c nw hd ft b0 v := TK.mk h.jl h.ba h.bm h.jn h.ji h.cn hE hP hI hS hr h.nw h.n2
theorem TB.xw {KN KS t T c nw im ig : Nat} (h : TB A M KN KS t T im ig c nw) : XW M := h.jl.2.1
theorem TB.rw' {KN KS t T c nw im ig : Nat} (h : TB A M KN KS t T im ig c nw) : RW A := h.jl.1
theorem TB.wnow {KN KS t T c nw im ig : Nat} (h : TB A M KN KS t T im ig c nw) : (mF M 641 304) = nI nw := by
  obtain ⟨n, e1, e2, -⟩ := h.jl.2.2.2.2.1.2.2.2.2.1
  rw [e2, ← e1]; exact h.nw
theorem TB.t1000 {KN KS t T c nw im ig : Nat} (h : TB A M KN KS t T im ig c nw) : t ≤ 1000 := by
  obtain ⟨_, _, _, _, _, q, -⟩ := h.jl.2.2.2.2.2.2.2
  exact q.2
theorem TB_upd {KN KS t u T k c nw im ig : Nat} (h : TB A M KN KS t T im ig c nw) (hu : t + u ≤ 1000) (aS : mS A' = mS A) (aG : mG A' = mG A) (aB : mB A' = mB A) (aA : mA A' = mA A) (aF : ∀ f a, ¬ (768 ≤ f ∧ f < 832 ∧ a = 342 + 4 * k) → mF A' f a = mF A f a) (xS : mS M' = mS M) (xG : mG M' = mG M) (xB : mB M' = mB M) (xA : mA M' = mA M) (xF : ∀ f a, a ≠ c → a ≠ c + 2 → a ≠ c + 5 → mF M' f a = mF M f a) :
    TB A' M' KN KS (t + u) T im ig c nw ∧ FCA k A A' ∧ FCM c M M' := by
  have hJ := h.jl
  refine ⟨TB.mk ?_ (Bd_same h.ba aS aG aB aA) (Bd_same h.bm xS xG xB xA) ?_ ?_ ?_ ?_ h.n2, ⟨aS, aG, aB, fun f a n => aF f a (fun e => n (by unfold PCa; omega)), fun a _ => by rw [aA], by rw [aF 1049 323 (by omega)]; exact Int32.le_refl _⟩, ⟨by rw [xS]; exact Nat.le_refl _, fun a _ => by rw [xS]; exact ⟨rfl, rfl⟩, fun f a _ _ => by rw [xG], fun a _ _ => by rw [xB], fun f a _ n => xF f a (fun e => n (by unfold PCx; omega)) (fun e => n (by unfold PCx; omega)) (fun e => n (by unfold PCx; omega)), fun a _ _ => by rw [xA]⟩⟩
  · exact JL0_mono hu (JL0_cn hJ h.cn aS aG aB (fun g a hh => aF g a (fun e => by unfold JLf at hh; omega)) (fun a _ => by rw [aA]) xS xG xB (fun g a h1 h2 h3 _ => xF g a h1 h2 h3) (fun a _ _ _ _ _ _ _ => by rw [xA]))
  · intro i hi
    rw [aA, xA]; exact h.jn i hi
  · obtain ⟨z1, z2, z3, z4, z5, z6⟩ := h.ji
    unfold JI okA
    rw [xS, xG, xA, aA]
    exact ⟨z1, z2, z3, z4, z5, z6⟩
  · rw [show CnO M' c = CnO M c from by unfold CnO okA; rw [xS, xG]]
    exact h.cn
  · rw [aF _ _ (by omega)]; exact h.nw
theorem CI_mono {k nw t u im : Nat} {b0 : Int32} {v : Nat → Nat} (hI : CI A k nw t im b0 v) : CI A k nw (t + u) im b0 v := by
  have FA' : ∀ g, ¬ 100000 ≤ g → mF A g (342 + 4 * k) = mF A g (342 + 4 * k) := fun _ _ => rfl
  refine CI.mk ?_ ?_ ?_ ?_ ?_ ?_ ?_ ?_ ?_ ?_ ?_ ?_ ?_ ?_ ?_ ?_ ?_ ?_ ?_ ?_ ?_ ?_ ?_ ?_ ?_ ?_ ?_ ?_ ?_ ?_ ?_ ?_ ?_ ?_ ?_ ?_
  · exact (FA' 797 (by omega)).trans hI.bg
  · exact (FA' 772 (by omega)).trans hI.una
  · exact (FA' 773 (by omega)).trans hI.at'
  · exact (FA' 774 (by omega)).trans hI.max
  · exact hI.ua
  · exact hI.am
  · exact hI.mL
  · exact (FA' 794 (by omega)).trans hI.hl
  · exact hI.hl1
  · exact (FA' 796 (by omega)).trans hI.bl
  · exact hI.bl1
  · rw [FA' 795 (by omega)]; exact hI.bp
  · exact (FA' 798 (by omega)).trans hI.cl
  · exact hI.cl1
  · exact (FA' 799 (by omega)).trans hI.fn
  · exact hI.fn1
  · exact hI.fnI
  · exact (FA' 778 (by omega)).trans hI.ms
  · exact hI.ms1
  · exact (FA' 779 (by omega)).trans hI.cw
  · exact hI.cw1
  · exact (FA' 780 (by omega)).trans hI.ss
  · exact hI.ss1
  · exact (FA' 781 (by omega)).trans hI.ro
  · exact hI.ro1
  · exact (FA' 775 (by omega)).trans hI.wi
  · exact hI.wi1
  · exact (FA' 789 (by omega)).trans hI.on
  · exact hI.on1
  · rw [FA' 790 (by omega)]; exact hI.tm
  · exact (FA' 785 (by omega)).trans hI.ti
  · exact hI.ti1
  · exact fun q => by obtain ⟨t1, t2, t3, t4, t5, t6, t7⟩ := hI.tn q; exact ⟨t1, t2, t3, t4, t5, t6, Nat.le_trans t7 (Nat.add_le_add_left (Nat.mul_le_mul_left _ (by omega)) _)⟩
  · exact (FA' 784 (by omega)).trans hI.me
  · exact hI.me1
  · rw [FA' 782 (by omega), FA' 783 (by omega)]; exact hI.sv
theorem bef0 (x : Int32) : (if 0 ≤ x then (0 : Int32) else 1) = if x < 0 then 1 else 0 := by
  by_cases q : 0 ≤ x
  · rw [if_pos q, if_neg (Int32.not_lt.mpr q)]
  · rw [if_neg q, if_pos (Int32.not_le.mp q)]
theorem m_before (fu : Nat) (a b : Int32) : fX16_before fu a b A = some (if a - b < 0 then 1 else 0, A) := by
  unfold fX16_before
  by_cases q : 0 ≤ a - b
  · rw [if_pos q, if_neg (Int32.not_lt.mpr q), rN0]
  · rw [if_neg q, if_pos (Int32.not_le.mp q), rN1]
theorem m_behind (fu : Nat) (a b : Int32) : fX16_isBehind fu a b A = some (if a - b ≤ 0 then 0 else 1, A) := by
  unfold fX16_isBehind
  by_cases q : a - b ≤ 0
  · rw [if_pos q, if_pos q, rN0]
  · rw [if_neg q, if_neg q, rN1]
theorem if10 (p : Prop) [Decidable p] {β : Type} {x y : β} : (if (if p then (1 : Int32) else 0) = 0 then x else y) = if p then y else x := by
  by_cases q : p
  · rw [if_pos q, if_pos q, if_neg (by decide)]
  · simp only [if_neg q, if_true]
/-- the window, in both -/
theorem sp_window (fu : Nat) {KN KS t T k c nw im ig hd ft bd da dx dl w : Nat} {b0 : Int32} {v : Nat → Nat} (h : TB A M KN KS t T im ig c nw) (hk : k < 16) (hE : CE A M k c) (hP : CP A M k c) (hI : CI A k nw t im b0 v) (hS : CW A k nw b0 v) (hr : CR A M k c hd ft) (hG : SG A M bd da dx dl w) :
    ∃ A' M' v', fX16_acknowledgement_L151 fu 323 (some (342 + 4 * k)) A = fX16_acknowledgement_L235 fu 323 (some (342 + 4 * k)) A' ∧ fX9_isAcknowledged_L91 fu 317 (some c) M = fX9_isAcknowledged_L140 fu 317 (some c) M' ∧ TB A' M' KN KS t T im ig c nw ∧ CE A' M' k c ∧ CP A' M' k c ∧ CI A' k nw t im b0 v' ∧ CW A' k nw b0 v' ∧ CR A' M' k c hd ft ∧ FCA k A A' ∧ FCM c M M' := by
  have hR := h.rw'
  have hW := h.xw
  have hA := rw_cnO hR k hk
  have hC := h.cn
  have c1 := hC.1
  have c4 := hC.2.2.2.1
  have c14 := hC.2.2.2.2.2.2.2.2.2.2.2.2.2
  have o3 := xw_ok314 hW
  have n1 := ok_ne o3 c1 (by decide)
  have n5 := ok_ne o3 c14 (by decide)
  have hw1 := hG.w1
  have o323 := rw_ok323 hR
  -- tries
  have tail : ∀ (A M : Mm) (v : Nat → Nat), TB A M KN KS t T im ig c nw → CE A M k c → CP A M k c → CI A k nw t im b0 v → CW A k nw b0 v → CR A M k c hd ft → ∃ A' M', (if (mF A 775 (342 + 4 * k)) = 0 then (pF A 12 791 (some (342 + 4 * k)) 0).bind (fun M6 => fX16_acknowledgement_L235 fu 323 (some (342 + 4 * k)) M6) else fX16_acknowledgement_L235 fu 323 (some (342 + 4 * k)) A) = fX16_acknowledgement_L235 fu 323 (some (342 + 4 * k)) A' ∧ fX9_isAcknowledged_L125 fu 317 (some c) M = fX9_isAcknowledged_L140 fu 317 (some c) M' ∧ TB A' M' KN KS t T im ig c nw ∧ CE A' M' k c ∧ CP A' M' k c ∧ CI A' k nw t im b0 v ∧ CW A' k nw b0 v ∧ CR A' M' k c hd ft ∧ FCA k A A' ∧ FCM c M M' := by
    intro A M v h hE hP hI hS hr
    have hA := rw_cnO h.rw' k hk
    have hC := h.cn
    have c1 := hC.1
    have c4 := hC.2.2.2.1
    have c14 := hC.2.2.2.2.2.2.2.2.2.2.2.2.2
    unfold fX9_isAcknowledged_L125
    rw [gI_ok c1, ob_some, ← hE.wi]
    by_cases q : (mF A 775 (342 + 4 * k)) = 0
    · rw [if_pos q, if_pos q, pF_ok hA, ob_some, gR_ok c1, ob_some, c4, pF_ok c14, ob_some]
      refine ⟨_, _, rfl, rfl, ?_⟩
      have FA' : ∀ g, ¬ g = 791 → mF (sF A 791 (342 + 4 * k) 0) g (342 + 4 * k) = mF A g (342 + 4 * k) := fun g hg => by rw [mF_sF, if_neg (fun e => hg e.1)]
      have FC' : ∀ g, ¬ 100000 ≤ g → mF (sF M 325 (c + 5) 0) g c = mF M g c := fun g _ => by rw [mF_sF, if_neg (by omega)]
      have FR' : ∀ g, ¬ 100000 ≤ g → mF (sF M 325 (c + 5) 0) g (c + 2) = mF M g (c + 2) := fun g _ => by rw [mF_sF, if_neg (by omega)]
      have FP' : ∀ g, ¬ g = 325 → mF (sF M 325 (c + 5) 0) g (c + 5) = mF M g (c + 5) := fun g hg => by rw [mF_sF, if_neg (fun e => hg e.1)]
      have hdA : mA (sF A 791 (342 + 4 * k) 0) (343 + 4 * k) = mA A (343 + 4 * k) := rfl
      have hdM : mA (sF M 325 (c + 5) 0) (c + 1) = mA M (c + 1) := rfl
      obtain ⟨z1, z2, z3⟩ := TB_upd (k := k) (A' := sF A 791 (342 + 4 * k) 0) (M' := sF M 325 (c + 5) 0) (u := 0) h h.t1000 rfl rfl rfl rfl (fun f a hh => by rw [mF_sF, if_neg (by omega)]) rfl rfl rfl rfl (fun f a _ _ h5 => by rw [mF_sF, if_neg (fun e => h5 e.2)])
      refine ⟨z1, ?_, ?_, ?_, ?_, ?_, z2, z3⟩
      · refine CE.mk ?_ ?_ ?_ ?_ ?_ ?_ ?_ ?_ ?_ ?_ ?_ ?_ ?_ ?_ ?_ ?_ ?_ ?_
        · exact (FA' 768 (by omega)).trans (hE.st.trans (FC' 64 (by omega)).symm)
        · exact (FA' 769 (by omega)).trans (hE.ip.trans (FC' 65 (by omega)).symm)
        · exact (FA' 770 (by omega)).trans (hE.po.trans (FC' 66 (by omega)).symm)
        · exact (FA' 771 (by omega)).trans (hE.is.trans (FC' 67 (by omega)).symm)
        · exact (FA' 772 (by omega)).trans (hE.una.trans (FC' 68 (by omega)).symm)
        · exact (FA' 773 (by omega)).trans (hE.at'.trans (FC' 69 (by omega)).symm)
        · exact (FA' 774 (by omega)).trans (hE.max.trans (FC' 70 (by omega)).symm)
        · exact (FA' 775 (by omega)).trans (hE.wi.trans (FC' 71 (by omega)).symm)
        · exact (FA' 776 (by omega)).trans (hE.w1.trans (FC' 82 (by omega)).symm)
        · exact (FA' 777 (by omega)).trans (hE.w2.trans (FC' 83 (by omega)).symm)
        · exact (FA' 794 (by omega)).trans (hE.hl.trans (FC' 78 (by omega)).symm)
        · exact (FA' 796 (by omega)).trans (hE.bl.trans (FC' 76 (by omega)).symm)
        · rw [FA' 796 (by omega), FA' 795 (by omega), FC' 75 (by omega)]; exact hE.bp
        · exact (FA' 797 (by omega)).trans (hE.bg.trans (FC' 77 (by omega)).symm)
        · exact (FA' 798 (by omega)).trans (hE.cl.trans (FC' 74 (by omega)).symm)
        · rw [FA' 768 (by omega), FA' 812 (by omega), FC' 73 (by omega)]; exact hE.la
        · rw [FA' 768 (by omega), FA' 813 (by omega), FC' 72 (by omega)]; exact hE.li
        · rw [FA' 794 (by omega), hdA, hdM]; exact hE.hd
      · refine CP.mk ?_ ?_ ?_ ?_ ?_ ?_ ?_ ?_ ?_ ?_ ?_ ?_
        · exact (FA' 778 (by omega)).trans (hP.ms.trans (FP' 320 (by omega)).symm)
        · exact (FA' 779 (by omega)).trans (hP.cw.trans (FP' 321 (by omega)).symm)
        · exact (FA' 780 (by omega)).trans (hP.ss.trans (FP' 322 (by omega)).symm)
        · exact (FA' 781 (by omega)).trans (hP.ro.trans (FP' 323 (by omega)).symm)
        · rw [mF_sF, if_pos ⟨rfl, rfl⟩, mF_sF, if_pos ⟨rfl, rfl⟩]
        · exact (FA' 792 (by omega)).trans (hP.du.trans (FP' 326 (by omega)).symm)
        · exact (FA' 786 (by omega)).trans (hP.re.trans (FP' 327 (by omega)).symm)
        · exact (FA' 785 (by omega)).trans (hP.ti.trans (FP' 328 (by omega)).symm)
        · rw [FA' 785 (by omega), FA' 787 (by omega), FA' 788 (by omega), FP' 329 (by omega), FP' 330 (by omega)]; exact hP.tn
        · exact (FA' 784 (by omega)).trans (hP.me.trans (FP' 331 (by omega)).symm)
        · rw [FA' 784 (by omega), FA' 782 (by omega), FA' 783 (by omega), FP' 332 (by omega), FP' 333 (by omega)]; exact hP.sv
        · rw [FA' 789 (by omega), FA' 790 (by omega), FP' 324 (by omega)]; exact hP.tm
      · refine CI.mk ?_ ?_ ?_ ?_ ?_ ?_ ?_ ?_ ?_ ?_ ?_ ?_ ?_ ?_ ?_ ?_ ?_ ?_ ?_ ?_ ?_ ?_ ?_ ?_ ?_ ?_ ?_ ?_ ?_ ?_ ?_ ?_ ?_ ?_ ?_ ?_
        · exact (FA' 797 (by omega)).trans hI.bg
        · exact (FA' 772 (by omega)).trans hI.una
        · exact (FA' 773 (by omega)).trans hI.at'
        · exact (FA' 774 (by omega)).trans hI.max
        · exact hI.ua
        · exact hI.am
        · exact hI.mL
        · exact (FA' 794 (by omega)).trans hI.hl
        · exact hI.hl1
        · exact (FA' 796 (by omega)).trans hI.bl
        · exact hI.bl1
        · rw [FA' 795 (by omega)]; exact hI.bp
        · exact (FA' 798 (by omega)).trans hI.cl
        · exact hI.cl1
        · exact (FA' 799 (by omega)).trans hI.fn
        · exact hI.fn1
        · exact hI.fnI
        · exact (FA' 778 (by omega)).trans hI.ms
        · exact hI.ms1
        · exact (FA' 779 (by omega)).trans hI.cw
        · exact hI.cw1
        · exact (FA' 780 (by omega)).trans hI.ss
        · exact hI.ss1
        · exact (FA' 781 (by omega)).trans hI.ro
        · exact hI.ro1
        · exact (FA' 775 (by omega)).trans hI.wi
        · exact hI.wi1
        · exact (FA' 789 (by omega)).trans hI.on
        · exact hI.on1
        · rw [FA' 790 (by omega)]; exact hI.tm
        · exact (FA' 785 (by omega)).trans hI.ti
        · exact hI.ti1
        · rw [FA' 787 (by omega), FA' 788 (by omega)]; exact hI.tn
        · exact (FA' 784 (by omega)).trans hI.me
        · exact hI.me1
        · rw [FA' 782 (by omega), FA' 783 (by omega)]; exact hI.sv
      · exact CW.mk ((FA' _ (by omega)).trans hS.st) hS.st1 hS.u1 hS.s27 hS.s358 hS.s46 (by rw [FA' 812 (by omega)]; exact hS.la) (by rw [FA' 813 (by omega)]; exact hS.si)
      · exact CR_congr (A := A) (M := M) (fun g hg => FA' g (by omega)) rfl rfl (fun g hg => FR' g (by omega)) rfl rfl hr
    · rw [if_neg q, if_neg q]
      exact ⟨A, M, rfl, rfl, h, hE, hP, hI, hS, hr, FB.rf, FM.rf⟩
  unfold fX16_acknowledgement_L151 fX9_isAcknowledged_L91 fX16_acknowledgement_L204 fX16_acknowledgement_L209 fX1_isWindowNewer
  simp only [gI_ok o323, gI_ok hA, ob_some, m_before, b2_some, gR_ok (xw_ok317 hW), xw_g579_317 hW, gI_ok o3, gI_ok c1, rc_ok c1, if10, ← hE.una, ← hG.ak, ← hE.w1, ← hE.w2, ← hG.sq]
  by_cases p0 : (mF A 1059 323) - (mF A 772 (342 + 4 * k)) < 0
  · simp only [if_pos p0]
    exact ⟨A, M, v, rfl, rfl, h, hE, hP, hI, hS, hr, FB.rf, FM.rf⟩
  · simp only [if_neg p0]
    have noW : ∃ A' M' v', (if (mF A 775 (342 + 4 * k)) = 0 then (pF A 12 791 (some (342 + 4 * k)) 0).bind (fun M6 => fX16_acknowledgement_L235 fu 323 (some (342 + 4 * k)) M6) else fX16_acknowledgement_L235 fu 323 (some (342 + 4 * k)) A) = fX16_acknowledgement_L235 fu 323 (some (342 + 4 * k)) A' ∧ fX9_isAcknowledged_L125 fu 317 (some c) M = fX9_isAcknowledged_L140 fu 317 (some c) M' ∧ TB A' M' KN KS t T im ig c nw ∧ CE A' M' k c ∧ CP A' M' k c ∧ CI A' k nw t im b0 v' ∧ CW A' k nw b0 v' ∧ CR A' M' k c hd ft ∧ FCA k A A' ∧ FCM c M M' := by
      obtain ⟨A', M', r⟩ := tail A M v h hE hP hI hS hr
      exact ⟨A', M', v, r⟩
    have yesW : ∃ A' M' v', (rc A 16 (some 323)).bind (fun q1 => (fX16_takeWindow fu q1 (some (342 + 4 * k)) A).bind (fun M2 => (gI M2 16 1059 (some 323)).bind fun v1 => (gI M2 12 772 (some (342 + 4 * k))).bind fun v2 => b2 (fX16_before fu v1 v2 M2) fun v4 M3 => if v4 = 0 then (gI M3 12 775 (some (342 + 4 * k))).bind fun v5 => if v5 = 0 then (pF M3 12 791 (some (342 + 4 * k)) 0).bind fun M6 => fX16_acknowledgement_L235 fu 323 (some (342 + 4 * k)) M6 else fX16_acknowledgement_L235 fu 323 (some (342 + 4 * k)) M3 else fX16_acknowledgement_L235 fu 323 (some (342 + 4 * k)) M3)) = fX16_acknowledgement_L235 fu 323 (some (342 + 4 * k)) A' ∧ (fX1_takeWindow fu c (some 314) M).bind (fun M10 => fX9_isAcknowledged_L125 fu 317 (some c) M10) = fX9_isAcknowledged_L140 fu 317 (some c) M' ∧ TB A' M' KN KS t T im ig c nw ∧ CE A' M' k c ∧ CP A' M' k c ∧ CI A' k nw t im b0 v' ∧ CW A' k nw b0 v' ∧ CR A' M' k c hd ft ∧ FCA k A A' ∧ FCM c M M' := by
      have tA : fX16_takeWindow fu 323 (some (342 + 4 * k)) A = some (sF (sF (sF A 775 (342 + 4 * k) (nI w)) 776 (342 + 4 * k) (mF A 1058 323)) 777 (342 + 4 * k) (mF A 1059 323)) := by
        unfold fX16_takeWindow
        rw [gI_ok o323, ob_some, pF_ok hA, ob_some, gI_ok (by rw [ok_sF]; exact o323), ob_some, pF_ok (by rw [ok_sF]; exact hA), ob_some, gI_ok (by rw [ok_sF, ok_sF]; exact o323), ob_some, pF_ok (by rw [ok_sF, ok_sF]; exact hA), ob_some, hG.wi]
        simp only [mF_sF, reduceIte, Nat.reduceEqDiff, Nat.reduceAdd, Nat.reduceMul, Nat.reduceLT, Nat.reduceLeDiff, and_true, true_and, and_false, false_and, and_self, ne_eq, not_true_eq_false, not_false_eq_true, Option.some.injEq, reduceCtorEq]
      have tX : fX1_takeWindow fu c (some 314) M = some (sF (sF (sF M 71 c (nI w)) 82 c (mF A 1058 323)) 83 c (mF A 1059 323)) := by
        unfold fX1_takeWindow
        rw [gI_ok o3, ob_some, pF_ok c1, ob_some, gI_ok (by rw [ok_sF]; exact o3), ob_some, pF_ok (by rw [ok_sF]; exact c1), ob_some, gI_ok (by rw [ok_sF, ok_sF]; exact o3), ob_some, pF_ok (by rw [ok_sF, ok_sF]; exact c1), ob_some, hG.wx, hG.sq, hG.ak]
        simp only [mF_sF, n1, reduceIte, Nat.reduceEqDiff, Nat.reduceAdd, Nat.reduceMul, Nat.reduceLT, Nat.reduceLeDiff, and_true, true_and, and_false, false_and, and_self, ne_eq, not_true_eq_false, not_false_eq_true, Option.some.injEq, reduceCtorEq]
      rw [rc_ok o323, ob_some, tA, ob_some, tX, ob_some]
      generalize hA1 : sF (sF (sF A 775 (342 + 4 * k) (nI w)) 776 (342 + 4 * k) (mF A 1058 323)) 777 (342 + 4 * k) (mF A 1059 323) = A1
      generalize hM1 : sF (sF (sF M 71 c (nI w)) 82 c (mF A 1058 323)) 83 c (mF A 1059 323) = M1
      have FAo : ∀ g a, ¬ ((g = 775 ∨ g = 776 ∨ g = 777) ∧ a = 342 + 4 * k) → mF A1 g a = mF A g a := fun g a hg => by
        subst hA1
        rw [mF_sF, if_neg (fun e => hg ⟨by omega, e.2⟩), mF_sF, if_neg (fun e => hg ⟨by omega, e.2⟩), mF_sF, if_neg (fun e => hg ⟨by omega, e.2⟩)]
      have FMo : ∀ g a, ¬ ((g = 71 ∨ g = 82 ∨ g = 83) ∧ a = c) → mF M1 g a = mF M g a := fun g a hg => by
        subst hM1
        rw [mF_sF, if_neg (fun e => hg ⟨by omega, e.2⟩), mF_sF, if_neg (fun e => hg ⟨by omega, e.2⟩), mF_sF, if_neg (fun e => hg ⟨by omega, e.2⟩)]
      have a75 : mF A1 775 (342 + 4 * k) = nI w := by subst hA1; simp only [mF_sF, reduceIte, Nat.reduceEqDiff, Nat.reduceAdd, Nat.reduceMul, Nat.reduceLT, Nat.reduceLeDiff, and_true, true_and, and_false, false_and, and_self, ne_eq, not_true_eq_false, not_false_eq_true, Option.some.injEq, reduceCtorEq]
      have a76 : mF A1 776 (342 + 4 * k) = (mF A 1058 323) := by subst hA1; simp only [mF_sF, reduceIte, Nat.reduceEqDiff, Nat.reduceAdd, Nat.reduceMul, Nat.reduceLT, Nat.reduceLeDiff, and_true, true_and, and_false, false_and, and_self, ne_eq, not_true_eq_false, not_false_eq_true, Option.some.injEq, reduceCtorEq]
      have a77 : mF A1 777 (342 + 4 * k) = (mF A 1059 323) := by subst hA1; simp only [mF_sF, reduceIte, Nat.reduceEqDiff, Nat.reduceAdd, Nat.reduceMul, Nat.reduceLT, Nat.reduceLeDiff, and_true, true_and, and_false, false_and, and_self, ne_eq, not_true_eq_false, not_false_eq_true, Option.some.injEq, reduceCtorEq]
      have x71 : mF M1 71 c = nI w := by subst hM1; simp only [mF_sF, reduceIte, Nat.reduceEqDiff, Nat.reduceAdd, Nat.reduceMul, Nat.reduceLT, Nat.reduceLeDiff, and_true, true_and, and_false, false_and, and_self, ne_eq, not_true_eq_false, not_false_eq_true, Option.some.injEq, reduceCtorEq]
      have x82 : mF M1 82 c = (mF A 1058 323) := by subst hM1; simp only [mF_sF, reduceIte, Nat.reduceEqDiff, Nat.reduceAdd, Nat.reduceMul, Nat.reduceLT, Nat.reduceLeDiff, and_true, true_and, and_false, false_and, and_self, ne_eq, not_true_eq_false, not_false_eq_true, Option.some.injEq, reduceCtorEq]
      have x83 : mF M1 83 c = (mF A 1059 323) := by subst hM1; simp only [mF_sF, reduceIte, Nat.reduceEqDiff, Nat.reduceAdd, Nat.reduceMul, Nat.reduceLT, Nat.reduceLeDiff, and_true, true_and, and_false, false_and, and_self, ne_eq, not_true_eq_false, not_false_eq_true, Option.some.injEq, reduceCtorEq]
      have FA' : ∀ g, ¬ (g = 775 ∨ g = 776 ∨ g = 777) → mF A1 g (342 + 4 * k) = mF A g (342 + 4 * k) := fun g hg => FAo g _ (fun e => hg e.1)
      have FC' : ∀ g, ¬ (g = 71 ∨ g = 82 ∨ g = 83) → mF M1 g c = mF M g c := fun g hg => FMo g _ (fun e => hg e.1)
      have FR' : ∀ g, ¬ 100000 ≤ g → mF M1 g (c + 2) = mF M g (c + 2) := fun g _ => FMo g _ (by omega)
      have FP' : ∀ g, ¬ 100000 ≤ g → mF M1 g (c + 5) = mF M g (c + 5) := fun g _ => FMo g _ (by omega)
      obtain ⟨z1, z2, z3⟩ := TB_upd (k := k) (A' := A1) (M' := M1) (u := 0) h h.t1000 (by subst hA1; rfl) (by subst hA1; rfl) (by subst hA1; rfl) (by subst hA1; rfl) (fun f a hh => FAo f a (by omega)) (by subst hM1; rfl) (by subst hM1; rfl) (by subst hM1; rfl) (by subst hM1; rfl) (fun f a h1 _ _ => FMo f a (fun e => h1 e.2))
      have hdA : mA A1 (343 + 4 * k) = mA A (343 + 4 * k) := by subst hA1; rfl
      have hdM : mA M1 (c + 1) = mA M (c + 1) := by subst hM1; rfl
      have hE1 : CE A1 M1 k c := by
        refine CE.mk ?_ ?_ ?_ ?_ ?_ ?_ ?_ ?_ ?_ ?_ ?_ ?_ ?_ ?_ ?_ ?_ ?_ ?_
        · exact (FA' 768 (by omega)).trans (hE.st.trans (FC' 64 (by omega)).symm)
        · exact (FA' 769 (by omega)).trans (hE.ip.trans (FC' 65 (by omega)).symm)
        · exact (FA' 770 (by omega)).trans (hE.po.trans (FC' 66 (by omega)).symm)
        · exact (FA' 771 (by omega)).trans (hE.is.trans (FC' 67 (by omega)).symm)
        · exact (FA' 772 (by omega)).trans (hE.una.trans (FC' 68 (by omega)).symm)
        · exact (FA' 773 (by omega)).trans (hE.at'.trans (FC' 69 (by omega)).symm)
        · exact (FA' 774 (by omega)).trans (hE.max.trans (FC' 70 (by omega)).symm)
        · exact a75.trans x71.symm
        · exact a76.trans x82.symm
        · exact a77.trans x83.symm
        · exact (FA' 794 (by omega)).trans (hE.hl.trans (FC' 78 (by omega)).symm)
        · exact (FA' 796 (by omega)).trans (hE.bl.trans (FC' 76 (by omega)).symm)
        · rw [FA' 796 (by omega), FA' 795 (by omega), FC' 75 (by omega)]; exact hE.bp
        · exact (FA' 797 (by omega)).trans (hE.bg.trans (FC' 77 (by omega)).symm)
        · exact (FA' 798 (by omega)).trans (hE.cl.trans (FC' 74 (by omega)).symm)
        · rw [FA' 768 (by omega), FA' 812 (by omega), FC' 73 (by omega)]; exact hE.la
        · rw [FA' 768 (by omega), FA' 813 (by omega), FC' 72 (by omega)]; exact hE.li
        · rw [FA' 794 (by omega), hdA, hdM]; exact hE.hd
      have hP1 : CP A1 M1 k c := by
        refine CP.mk ?_ ?_ ?_ ?_ ?_ ?_ ?_ ?_ ?_ ?_ ?_ ?_
        · exact (FA' 778 (by omega)).trans (hP.ms.trans (FP' 320 (by omega)).symm)
        · exact (FA' 779 (by omega)).trans (hP.cw.trans (FP' 321 (by omega)).symm)
        · exact (FA' 780 (by omega)).trans (hP.ss.trans (FP' 322 (by omega)).symm)
        · exact (FA' 781 (by omega)).trans (hP.ro.trans (FP' 323 (by omega)).symm)
        · exact (FA' 791 (by omega)).trans (hP.tr.trans (FP' 325 (by omega)).symm)
        · exact (FA' 792 (by omega)).trans (hP.du.trans (FP' 326 (by omega)).symm)
        · exact (FA' 786 (by omega)).trans (hP.re.trans (FP' 327 (by omega)).symm)
        · exact (FA' 785 (by omega)).trans (hP.ti.trans (FP' 328 (by omega)).symm)
        · rw [FA' 785 (by omega), FA' 787 (by omega), FA' 788 (by omega), FP' 329 (by omega), FP' 330 (by omega)]; exact hP.tn
        · exact (FA' 784 (by omega)).trans (hP.me.trans (FP' 331 (by omega)).symm)
        · rw [FA' 784 (by omega), FA' 782 (by omega), FA' 783 (by omega), FP' 332 (by omega), FP' 333 (by omega)]; exact hP.sv
        · rw [FA' 789 (by omega), FA' 790 (by omega), FP' 324 (by omega)]; exact hP.tm
      have hI1 : CI A1 k nw t im b0 (uv v 13 w) := by
        refine CI.mk ?_ ?_ ?_ ?_ ?_ ?_ ?_ ?_ ?_ ?_ ?_ ?_ ?_ ?_ ?_ ?_ ?_ ?_ ?_ ?_ ?_ ?_ ?_ ?_ ?_ ?_ ?_ ?_ ?_ ?_ ?_ ?_ ?_ ?_ ?_ ?_
        · exact (FA' 797 (by omega)).trans hI.bg
        · exact (FA' 772 (by omega)).trans hI.una
        · exact (FA' 773 (by omega)).trans hI.at'
        · exact (FA' 774 (by omega)).trans hI.max
        · exact hI.ua
        · exact hI.am
        · exact hI.mL
        · exact (FA' 794 (by omega)).trans hI.hl
        · exact hI.hl1
        · exact (FA' 796 (by omega)).trans hI.bl
        · exact hI.bl1
        · rw [FA' 795 (by omega)]; exact hI.bp
        · exact (FA' 798 (by omega)).trans hI.cl
        · exact hI.cl1
        · exact (FA' 799 (by omega)).trans hI.fn
        · exact hI.fn1
        · exact hI.fnI
        · exact (FA' 778 (by omega)).trans hI.ms
        · exact hI.ms1
        · exact (FA' 779 (by omega)).trans hI.cw
        · exact hI.cw1
        · exact (FA' 780 (by omega)).trans hI.ss
        · exact hI.ss1
        · exact (FA' 781 (by omega)).trans hI.ro
        · exact hI.ro1
        · exact a75
        · exact hw1
        · exact (FA' 789 (by omega)).trans hI.on
        · exact hI.on1
        · rw [FA' 790 (by omega)]; exact hI.tm
        · exact (FA' 785 (by omega)).trans hI.ti
        · exact hI.ti1
        · rw [FA' 787 (by omega), FA' 788 (by omega)]; exact hI.tn
        · exact (FA' 784 (by omega)).trans hI.me
        · exact hI.me1
        · rw [FA' 782 (by omega), FA' 783 (by omega)]; exact hI.sv
      have hS1 : CW A1 k nw b0 (uv v 13 w) := CW.mk ((FA' _ (by omega)).trans hS.st) hS.st1 hS.u1 hS.s27 hS.s358 hS.s46 (by rw [FA' 812 (by omega)]; exact hS.la) (by rw [FA' 813 (by omega)]; exact hS.si)
      have hr1 : CR A1 M1 k c hd ft := CR_congr (A := A) (M := M) (fun g hg => FA' g (by omega)) (by subst hA1; rfl) (by subst hA1; rfl) (fun g hg => FR' g (by omega)) (by subst hM1; rfl) (by subst hM1; rfl) hr
      obtain ⟨A', M', r1, r2, r3, r4, r5, r6, r7, r8, r9, r10⟩ := tail A1 M1 (uv v 13 w) z1 hE1 hP1 hI1 hS1 hr1
      have hA1' := rw_cnO z1.rw' k hk
      refine ⟨A', M', _, ?_, r2, r3, r4, r5, r6, r7, r8, z2.tr r9, z3.tr r10⟩
      rw [gI_ok (rw_ok323 z1.rw'), ob_some, gI_ok hA1', ob_some, m_before, b2_some, if10, FAo 1059 323 (by omega), FA' 772 (by omega), if_neg p0, gI_ok hA1', ob_some]
      exact r1
    by_cases p1 : (mF A 776 (342 + 4 * k)) - (mF A 1058 323) < 0
    · simp only [if_pos p1, rN1, b2_some, if_neg (show ¬ (1 : Int32) = 0 by decide), gR_ok (xw_ok317 hW), xw_g579_317 hW, rc_ok c1, ob_some]
      simp only [m_before, b2_some, if10] at yesW
      exact yesW
    · simp only [if_neg p1]
      by_cases p2 : (mF A 776 (342 + 4 * k)) = (mF A 1058 323)
      · simp only [if_pos p2]
        by_cases p3 : (mF A 1059 323) - (mF A 777 (342 + 4 * k)) < 0
        · simp only [if_pos p3, rN0, b2_some, if_true]
          exact noW
        · simp only [if_neg p3, rN1, b2_some, if_neg (show ¬ (1 : Int32) = 0 by decide), gR_ok (xw_ok317 hW), xw_g579_317 hW, rc_ok c1, ob_some]
          simp only [m_before, b2_some, if10] at yesW
          exact yesW
      · simp only [if_neg p2, rN0, b2_some, if_true]
        exact noW
end Ackn
