/-! ===== part 98d: the head of a request, in both ===== -/
/-- a byte's value -/
def bv (v : Int32) : Nat := v.toBitVec.toNat % 256
theorem bv_lt (v : Int32) : bv v < 256 := Nat.mod_lt _ (by decide)
theorem u8_bv (v : Int32) : u8 v = nI (bv v) := pk_and v 8 (by decide)
theorem sml {n : Nat} (hn : n < 128) : Int8.toInt32 (Int32.toInt8 (nI n)) = nI n := by
  have : ∀ n, n < 128 → Int8.toInt32 (Int32.toInt8 (nI n)) = nI n := by decide +kernel
  exact this n hn
theorem isB_n {v : Int32} (h : isB v) {n : Nat} (hn : n < 128) : v = nI n ↔ bv v = n := by
  have h1 := sc_eq (b := v) h (n := n) (by omega)
  have h2 : v &&& 255 = nI (bv v) := u8_bv v
  rw [h2, sml hn] at h1
  have := bv_lt v
  exact h1.trans (nI_eq (by omega) (by omega))
/-- requests alone are other, in the reference, in the class -/
def FQA (A A' : Mm) : Prop := mS A' = mS A ∧ mG A' = mG A ∧ mB A' = mB A ∧ (∀ f a, ¬ (1066 ≤ f ∧ a = 323) → mF A' f a = mF A f a) ∧ (∀ a, a ≠ 340 → a ≠ 341 → mA A' a = mA A a)
def FQM (M M' : Mm) : Prop := mS M' = mS M ∧ mG M' = mG M ∧ mB M' = mB M ∧ (∀ f a, ¬ (448 ≤ f ∧ f < 512 ∧ a = 319) → mF M' f a = mF M f a) ∧ (∀ a, a ≠ 320 → a ≠ 321 → mA M' a = mA M a)
section Head
variable {A A' A'' M M' M'' : Mm}
theorem FQA.rf : FQA A A := ⟨rfl, rfl, rfl, fun _ _ _ => rfl, fun _ _ _ => rfl⟩
theorem FQM.rf : FQM M M := ⟨rfl, rfl, rfl, fun _ _ _ => rfl, fun _ _ _ => rfl⟩
theorem FQA.tr (h : FQA A A') (g : FQA A' A'') : FQA A A'' := ⟨g.1.trans h.1, g.2.1.trans h.2.1, g.2.2.1.trans h.2.2.1, fun f a n => (g.2.2.2.1 f a n).trans (h.2.2.2.1 f a n), fun a n n2 => (g.2.2.2.2 a n n2).trans (h.2.2.2.2 a n n2)⟩
theorem FQM.tr (h : FQM M M') (g : FQM M' M'') : FQM M M'' := ⟨g.1.trans h.1, g.2.1.trans h.2.1, g.2.2.1.trans h.2.2.1, fun f a n => (g.2.2.2.1 f a n).trans (h.2.2.2.1 f a n), fun a n n2 => (g.2.2.2.2 a n n2).trans (h.2.2.2.2 a n n2)⟩
theorem FQA.s {f : Nat} (v : Int32) (h : 1066 ≤ f) : FQA A (sF A f 323 v) := ⟨rfl, rfl, rfl, fun g a n => by rw [mF_sF, if_neg (fun e => n ⟨by omega, e.2⟩)], fun _ _ _ => rfl⟩
theorem FQM.s {f : Nat} (v : Int32) (h : 448 ≤ f) (h2 : f < 512) : FQM M (sF M f 319 v) := ⟨rfl, rfl, rfl, fun g a n => by rw [mF_sF, if_neg (fun e => n ⟨by omega, by omega, e.2⟩)], fun _ _ _ => rfl⟩
theorem FQA.w {a : Nat} (g : Nat → Int32) (h : a = 340 ∨ a = 341) : FQA A (wA A a g) := ⟨rfl, rfl, rfl, fun _ _ _ => rfl, fun b n n2 => mA_wA_ne (by omega)⟩
theorem FQM.w {a : Nat} (g : Nat → Int32) (h : a = 320 ∨ a = 321) : FQM M (wA M a g) := ⟨rfl, rfl, rfl, fun _ _ _ => rfl, fun b n n2 => mA_wA_ne (by omega)⟩
theorem FQA.rW (h : FQA A A') (g : RW A) : RW A' := by
  rw [show RW A' = RW A from by unfold RW okA; rw [h.1, h.2.1, h.2.2.1]]
  exact g
theorem FQM.xW (h : FQM M M') (g : XW M) : XW M' := by
  rw [show XW M' = XW M from by unfold XW okA; rw [h.1, h.2.1]]
  exact g
/-- a connection is as it was -/
theorem TK_q {KN KS t T k c nw im ig hd ft : Nat} {b0 : Int32} {v : Nat → Nat} (hk : k < 16) (h : TK A M KN KS t T im ig k c nw hd ft b0 v) (ba : Bd RM TM A') (bm : Bd RX TX M') (fA : FQA A A') (fM : FQM M M') : TK A' M' KN KS t T im ig k c nw hd ft b0 v := by
  obtain ⟨a1, a2, a3, a4, a5⟩ := fA
  obtain ⟨x1, x2, x3, x4, x5⟩ := fM
  have hW := h.xw
  have hC := h.cn
  have hC' := hC
  obtain ⟨c1, c2, c3, c4, c5, c6, c7, c8, c9, c10, c11, c12, c13, c14⟩ := hC'
  have o7 := xw_ok319 hW
  have n1 := ok_ne c1 o7 (by decide)
  have n2 := ok_ne c7 o7 (by decide)
  have n5 := ok_ne c14 o7 (by decide)
  have m1 := ok_ne c1 (xw_ok320 hW) (by decide)
  have m2 := ok_ne c7 (xw_ok320 hW) (by decide)
  have m3 := ok_ne c10 o7 (by decide)
  have m4 := ok_ne c12 (xw_ok320 hW) (by decide)
  have m5 := ok_ne c12 (xw_ok321 hW) (by decide)
  have e1 : c + 1 ≠ 320 ∧ c + 1 ≠ 321 := by omega
  have e3 : c + 3 ≠ 320 ∧ c + 3 ≠ 321 := by omega
  have FA' : ∀ g, ¬ 100000 ≤ g → mF A' g (342 + 4 * k) = mF A g (342 + 4 * k) := fun g _ => a4 g _ (by omega)
  refine TK.mk ?_ ba bm ?_ ?_ ?_ ?_ ?_ ?_ ?_ ?_ ?_ h.n2
  · exact JL0_cn h.jl hC a1 a2 a3 (fun g a hh => a4 g a (fun e => by unfold JLf at hh; omega)) (fun a hh => a5 a (by omega) (by omega)) x1 x2 x3 (fun g a _ _ _ hh => x4 g a (fun e => by omega)) (fun a _ _ _ _ _ g6 g7 => x5 a g6 g7)
  · intro i hi
    rw [a5 330 (by decide) (by decide), x5 305 (by decide) (by decide)]
    exact h.jn i hi
  · obtain ⟨z1, z2, z3, z4, z5, z6, z7, z8, z9, z10, z11, z12⟩ := h.ji
    unfold JI okA
    rw [x1, x2, a5 325 (by decide) (by decide), x5 ig z11 z12]
    exact ⟨z1, z2, z3, z4, z5, z6, z7, z8, z9, z10, z11, z12⟩
  · rw [show CnO M' c = CnO M c from by unfold CnO okA; rw [x1, x2]]
    exact hC
  · exact CE_congr (A := A) (M := M) (fun f g1 g2 => a4 f _ (by omega)) (a5 _ (by omega) (by omega)) (fun f g1 g2 => x4 f _ (by omega)) (x5 _ e1.1 e1.2) h.ce
  · exact CP_congr (A := A) (M := M) (fun f g1 g2 => a4 f _ (by omega)) (fun f g1 g2 => x4 f _ (by omega)) h.cp
  · exact CI_congr (A := A) (fun f g1 g2 => a4 f _ (by omega)) h.ci
  · have hS := h.cs
    refine CS.mk ?_ ?_ ?_ ?_ ?_ ?_ ?_ ?_ ?_
    · exact (FA' 768 (by omega)).trans hS.st
    · exact hS.st1
    · rw [FA' 771 (by omega), FA' 786 (by omega)]; exact hS.s1
    · exact hS.sN1
    · exact hS.s27
    · exact hS.s358
    · exact hS.s46
    · rw [FA' 812 (by omega)]; exact hS.la
    · rw [FA' 813 (by omega)]; exact hS.si
  · exact CR_congr (A := A) (M := M) (fun f hf => a4 f _ (by omega)) (a5 _ (by omega) (by omega)) (a5 _ (by omega) (by omega)) (fun f hf => x4 f _ (by omega)) (x5 _ e3.1 e3.2) (x5 _ m4 m5) h.cr
  · rw [a4 _ _ (by omega)]; exact h.nw
/-- where a head ends, in both -/
theorem sp_hb (fu : Nat) {KN KS t T k c nw im ig hd ft : Nat} {b0 : Int32} {v : Nat → Nat} (h : TK A M KN KS t T im ig k c nw hd ft b0 v) (hk : k < 16) : ∀ (n i b m m2 : Nat), i + n = hd → b ≤ i → n ≤ m → n ≤ m2 →
    ∃ r g, r ≤ hd ∧ fX16_headBytes_L10 fu (m + 1) (some (342 + 4 * k)) (nI b) (nI hd) (nI i) A = some (nI r, A) ∧ fX7_copyHead_L18 fu (m2 + 1) 319 (some (c + 2)) (nI hd) (nI b) (nI i) (wA M 320 (fun j => if j < i then mA A (344 + 4 * k) j else mA M 320 j)) = some (nI r, wA M 320 g) ∧ (∀ j, j < r → g j = mA A (344 + 4 * k) j) ∧ (∀ j, isB (g j)) ∧ (r ≠ 0 → bv (mA A (344 + 4 * k) (r - 1)) = 10) := by
  have hR := h.rw'
  have hW := h.xw
  have hd1 := h.cr.hd1
  have c7 := h.cn.2.2.2.2.2.2.1
  have hB : ∀ j, isB (mA A (344 + 4 * k) j) := fun j => h.ba.2.2.2.2 _ j (rw_cnR hR k hk).2.2
  have hB2 : ∀ j, isB (mA M 320 j) := fun j => h.bm.2.2.2.2 _ j (xw_ok320 hW).2.2
  have hG : ∀ i j, isB ((fun j => if j < i then mA A (344 + 4 * k) j else mA M 320 j) j) := fun i j => by
    show isB (if j < i then mA A (344 + 4 * k) j else mA M 320 j)
    split
    · exact hB j
    · exact hB2 j
  intro n
  induction n with
  | zero =>
    intro i b m m2 h1 h2 h3 h4
    have e : i = hd := by omega
    refine ⟨0, _, by omega, ?_, ?_, fun j hj => by omega, hG i, fun e => absurd rfl e⟩
    · rw [fX16_headBytes_L10, if_pos (nI_le (by omega) (by omega))]
      rfl
    · rw [fX7_copyHead_L18, if_pos (nI_le (by omega) (by omega))]
      rfl
  | succ n ih =>
    intro i b m m2 h1 h2 h3 h4
    have hi : i < hd := by omega
    have g1 : ¬ nI hd ≤ nI i := nI_ge hi (by omega)
    have ba : ∀ x, x < hd → fX16_byteAt fu (some (342 + 4 * k)) (nI x) A = some (nI (bv (mA A (344 + 4 * k) x)), A) := fun x hx => by
      rw [m_byteAt fu h hk (i := x) (by omega), if_pos hx, u8_bv]
    have ten : ∀ x, x < hd → ((nI (bv (mA A (344 + 4 * k) x)) : Int32) = (10 : Int32) ↔ bv (mA A (344 + 4 * k) x) = 10) := fun x hx => by
      have := bv_lt (mA A (344 + 4 * k) x)
      exact nI_eq (b := 10) (by omega) (by decide)
    have thi : ∀ x, x < hd → ((nI (bv (mA A (344 + 4 * k) x)) : Int32) = (13 : Int32) ↔ bv (mA A (344 + 4 * k) x) = 13) := fun x hx => by
      have := bv_lt (mA A (344 + 4 * k) x)
      exact nI_eq (b := 13) (by omega) (by decide)
    -- the class copies a byte
    have eg : (fun j => if j = i then mA A (344 + 4 * k) i else (if j < i then mA A (344 + 4 * k) j else mA M 320 j)) = (fun j => if j < i + 1 then mA A (344 + 4 * k) j else mA M 320 j) := by
      funext j
      by_cases e : j = i
      · rw [if_pos e, if_pos (by omega), e]
      · rw [if_neg e]
        by_cases e2 : j < i
        · rw [if_pos e2, if_pos (by omega)]
        · rw [if_neg e2, if_neg (by omega)]
    generalize hM0 : wA M 320 (fun j => if j < i then mA A (344 + 4 * k) j else mA M 320 j) = M0
    generalize hM1 : wA M 320 (fun j => if j < i + 1 then mA A (344 + 4 * k) j else mA M 320 j) = M1
    have hW0 : XW M0 := by subst hM0; exact hW
    have hW1 : XW M1 := by subst hM1; exact hW
    have hpk : fX0_peek fu (c + 2) (nI i) M0 = some (nI (bv (mA A (344 + 4 * k) i)), M0) := by
      have hq : TK A M0 KN KS t T im ig k c nw hd ft b0 v := by
        refine TK_q hk h h.ba ?_ FQA.rf (by subst hM0; exact FQM.w _ (Or.inl rfl))
        subst hM0
        exact Bd_wA h.bm (fun _ => hG i)
      rw [x_peek fu hq hi, u8_bv]
    have pP : pA M0 100 (some 320) (nI i) (mA A (344 + 4 * k) i) = some M1 := by
      rw [pA_ok (xw_ok320 hW0) (by rw [xw_ln320 hW0]; omega) (by omega)]
      subst hM0 hM1
      rw [wA_wA, mA_wA_self, eg]
    have r1 : mA M1 320 = (fun j => if j < i + 1 then mA A (344 + 4 * k) j else mA M 320 j) := by subst hM1; rw [mA_wA_self]
    have gP : gA M1 100 (some 320) (nI i) = some (mA A (344 + 4 * k) i) := by
      rw [gA_ok (xw_ok320 hW1) (by rw [xw_ln320 hW1]; omega) (by omega), r1]
      show some (if i < i + 1 then _ else _) = _
      rw [if_pos (by omega)]
    have cls : fX7_copyHead_L18 fu (m2 + 1) 319 (some (c + 2)) (nI hd) (nI b) (nI i) M0 = if mA A (344 + 4 * k) i = (10 : Int32) then (b2 (fX7_lineEnd fu 319 (nI b) (nI i) M1) fun v10 M9 => if v10 = nI b then some ((nI (i + 1)), M9) else fX7_copyHead_L18 fu m2 319 (some (c + 2)) (nI hd) (nI (i + 1)) (nI (i + 1)) M9) else fX7_copyHead_L18 fu m2 319 (some (c + 2)) (nI hd) (nI b) (nI (i + 1)) M1 := by
      rw [fX7_copyHead_L18, if_neg g1, gR_ok (xw_ok319 hW0), ob_some, xw_g450_319 hW0, rc_ok (by subst hM0; exact c7), ob_some, hpk, b2_some, ← u8_bv, byt_u8 _ (hB i), pP, ob_some, gR_ok (xw_ok319 hW1), ob_some, xw_g450_319 hW1, gP, ob_some, rc_ok (xw_ok319 hW1), ob_some]
      unfold fX7_copyHead_L71
      rw [nI_1]
    have t10 : mA A (344 + 4 * k) i = (10 : Int32) ↔ bv (mA A (344 + 4 * k) i) = 10 := isB_n (hB i) (n := 10) (by decide)
    by_cases q : bv (mA A (344 + 4 * k) i) = 10
    · have ref : fX16_headBytes_L10 fu (m + 1) (some (342 + 4 * k)) (nI b) (nI hd) (nI i) A = if i = b ∨ (i = b + 1 ∧ bv (mA A (344 + 4 * k) b) = 13) then some (nI (i + 1), A) else fX16_headBytes_L10 fu m (some (342 + 4 * k)) (nI (i + 1)) (nI hd) (nI (i + 1)) A := by
        rw [fX16_headBytes_L10, if_neg g1, ba i hi, b2_some, if_pos ((ten i hi).mpr q)]
        unfold fX16_headBytes_L51 fX16_headBytes_L55 fX16_headBytes_L56 fX16_headBytes_L73
        rw [if_neg (show ¬ (1 : Int32) = 0 by decide), if_pos rfl, nI_1, nI_1]
        by_cases e1 : i = b
        · rw [if_pos (by rw [e1]), if_pos (Or.inl e1)]
        · rw [if_neg (fun e => e1 ((nI_eq (by omega) (by omega)).mp e))]
          by_cases e2 : i = b + 1
          · rw [if_pos (by rw [e2]), ba b (by omega), b2_some]
            by_cases e3 : bv (mA A (344 + 4 * k) b) = 13
            · rw [if_pos ((thi b (by omega)).mpr e3), if_pos (show i = b ∨ (i = b + 1 ∧ bv (mA A (344 + 4 * k) b) = 13) from Or.inr ⟨e2, e3⟩), if_neg (show ¬ (1 : Int32) = 0 by decide)]
            · rw [if_neg (fun e => e3 ((thi b (by omega)).mp e)), if_neg (show ¬ (i = b ∨ (i = b + 1 ∧ bv (mA A (344 + 4 * k) b) = 13)) from fun e => e.elim e1 (fun z => e3 z.2)), if_pos rfl]
          · rw [if_neg (fun e => e2 ((nI_eq (by omega) (by omega)).mp e)), if_neg (fun e => e.elim e1 (fun z => e2 z.1))]
      have le : fX7_lineEnd fu 319 (nI b) (nI i) M1 = some (if b < i ∧ bv (mA A (344 + 4 * k) (i - 1)) = 13 then nI (i - 1) else nI i, M1) := by
        unfold fX7_lineEnd
        by_cases e1 : i ≤ b
        · rw [if_pos (nI_le e1 (by omega)), if_neg (fun e => by omega)]
        · rw [if_neg (nI_ge (by omega) (by omega)), gR_ok (xw_ok319 hW1), ob_some, xw_g450_319 hW1, show nI i - (1 : Int32) = nI (i - 1) from nI_sub (y := 1) (by omega), x_one fu (xw_ok320 hW1) (by rw [xw_ln320 hW1]; decide) (by rw [xw_ln320 hW1]; omega), b2_some, r1]
          have e5 : (if i - 1 < i + 1 then mA A (344 + 4 * k) (i - 1) else mA M 320 (i - 1)) = mA A (344 + 4 * k) (i - 1) := if_pos (by omega)
          show (if u8 (if i - 1 < i + 1 then mA A (344 + 4 * k) (i - 1) else mA M 320 (i - 1)) = 13 then some (nI (i - 1), M1) else some (nI i, M1)) = _
          rw [e5, u8_bv]
          by_cases e2 : bv (mA A (344 + 4 * k) (i - 1)) = 13
          · rw [if_pos ((thi _ (by omega)).mpr e2), if_pos ⟨by omega, e2⟩]
          · rw [if_neg (fun e => e2 ((thi _ (by omega)).mp e)), if_neg (fun e => e2 e.2)]
      rw [if_pos (t10.mpr q), le, b2_some] at cls
      have eqv : ((if b < i ∧ bv (mA A (344 + 4 * k) (i - 1)) = 13 then nI (i - 1) else nI i) = (nI b : Int32)) ↔ (i = b ∨ (i = b + 1 ∧ bv (mA A (344 + 4 * k) b) = 13)) := by
        by_cases e : b < i ∧ bv (mA A (344 + 4 * k) (i - 1)) = 13
        · rw [if_pos e, nI_eq (by omega) (by omega)]
          constructor
          · intro e2
            right
            rw [← e2]
            exact ⟨by omega, e.2⟩
          · intro e2
            omega
        · rw [if_neg e, nI_eq (by omega) (by omega)]
          constructor
          · exact fun e2 => Or.inl e2
          · intro e2
            rcases e2 with e2 | ⟨e2, e3⟩
            · exact e2
            · exact absurd ⟨by omega, by rw [show i - 1 = b by omega]; exact e3⟩ e
      by_cases z : i = b ∨ (i = b + 1 ∧ bv (mA A (344 + 4 * k) b) = 13)
      · rw [if_pos z] at ref
        rw [if_pos (eqv.mpr z)] at cls
        subst hM1
        exact ⟨i + 1, _, by omega, ref, cls, fun j hj => if_pos hj, hG (i + 1), fun _ => q⟩
      · rw [if_neg z] at ref
        rw [if_neg (fun e => z (eqv.mp e))] at cls
        obtain ⟨r, g, s1, s2, s3, s4⟩ := ih (i + 1) (i + 1) (m - 1) (m2 - 1) (by omega) (Nat.le_refl _) (by omega) (by omega)
        rw [show m - 1 + 1 = m by omega] at s2
        rw [show m2 - 1 + 1 = m2 by omega, hM1] at s3
        exact ⟨r, g, s1, ref.trans s2, cls.trans s3, s4⟩
    · have ref : fX16_headBytes_L10 fu (m + 1) (some (342 + 4 * k)) (nI b) (nI hd) (nI i) A = fX16_headBytes_L10 fu m (some (342 + 4 * k)) (nI b) (nI hd) (nI (i + 1)) A := by
        rw [fX16_headBytes_L10, if_neg g1, ba i hi, b2_some, if_neg (fun e => q ((ten i hi).mp e))]
        unfold fX16_headBytes_L73
        rw [nI_1]
      rw [if_neg (fun e => q (t10.mp e))] at cls
      obtain ⟨r, g, s1, s2, s3, s4⟩ := ih (i + 1) b (m - 1) (m2 - 1) (by omega) (by omega) (by omega) (by omega)
      rw [show m - 1 + 1 = m by omega] at s2
      rw [show m2 - 1 + 1 = m2 by omega, hM1] at s3
      exact ⟨r, g, s1, ref.trans s2, cls.trans s3, s4⟩
end Head
