/-! ===== part 75: a packet is put to wait, in the class ===== -/
section LetWait
variable {M : Mm}
def waitM (B : Mm) (q L : Nat) (hop nw : Int32) : Mm := sF (wA (sF (sF (sF B 387 q hop) 386 q nw) 388 q 1) (q + 1) (fun j => if j < L then mA B 308 j else mA B (q + 1) j)) 385 q (nI L)
theorem q1_ne {B : Mm} (hW : XW B) {q : Nat} (hq : okA B 6 q) : 308 ≠ q + 1 ∧ q ≠ 307 ∧ q ≠ 304 ∧ q ≠ 308 := by
  have h1 : q ≠ 307 := by
    rintro rfl
    have := hq.2.2.symm.trans (xw_ok307 hW).2.2
    cases this
  have h2 : q ≠ 304 := by
    rintro rfl
    have := hq.2.2.symm.trans (xw_ok304 hW).2.2
    cases this
  have h3 : q ≠ 308 := by
    rintro rfl
    have := hq.2.2.symm.trans (xw_ok308 hW).2.2
    cases this
  exact ⟨by omega, h1, h2, h3⟩
theorem x_letWait_L107 {B : Mm} (hW : XW B) {q L : Nat} (hq : okA B 6 q) (hg : (mG B 384 q) = some (q + 1)) (hb : okA B 100 (q + 1)) (hl : sLen (mS B) (q + 1) = 1514) (hL : L ≤ 1514) (fu : Nat) {v : Int32} (hv : v = 0 ∨ v = 1) :
    fX4_letWait_L107 fu 307 (nI L) v (some q) B = some (v, sF (wA B (q + 1) (fun j => if j < L then mA B 308 j else mA B (q + 1) j)) 385 q (nI L)) := by
  unfold fX4_letWait_L107
  have e1 : jmin (nI L) (1514 : Int32) = nI L := by
    have := jmin_nI (a := L) (b := 1514) (by omega) (by omega)
    rw [Nat.min_eq_left hL] at this
    exact this
  have e2 : cpB B (some 308) (0 : Int32) (some (q + 1)) (0 : Int32) (nI L) = some (sC B 308 0 (q + 1) 0 L) := cpB_ok (sp := 0) (dp := 0) (xw_ok308 hW) hb (q1_ne hW hq).1 (by rw [xw_ln308 hW]; omega) (by omega) (by rw [xw_ln308 hW]; decide) (by omega)
  rw [gR_ok (xw_ok307 hW), ob_some, xw_g256_307 hW, gR_ok hq, ob_some, hg, e1, e2, ob_some, sC_wA, pF_ok (by rw [ok_wA]; exact hq), ob_some, rN_z hv]
theorem x_letWait_L78 {B : Mm} (hW : XW B) {q L : Nat} (hq : okA B 6 q) (hg : (mG B 384 q) = some (q + 1)) (hb : okA B 100 (q + 1)) (hl : sLen (mS B) (q + 1) = 1514) (hL : L ≤ 1514) (fu : Nat) (hop : Int32) :
    fX4_letWait_L78 fu 307 hop (nI L) (1 : Int32) (some q) B = some (1, waitM B q L hop (mF B 641 304)) := by
  unfold fX4_letWait_L78
  have hn := q1_ne hW hq
  rw [if_neg (by decide), pF_ok hq, ob_some]
  simp only [gR_ok, gI_ok, pF_ok, ok_sF, xw_ok307 hW, xw_ok304 hW, hq, ob_some, mG_sF, xw_g261_307 hW, mF_sF, reduceIte, Nat.reduceEqDiff, Nat.reduceAdd, Nat.reduceMul, Nat.reduceLT, Nat.reduceLeDiff, and_true, true_and, and_false, false_and, and_self, ne_eq, not_true_eq_false, not_false_eq_true, Option.some.injEq, reduceCtorEq]
  have hW2 : XW (sF (sF (sF B 387 q hop) 386 q (mF B 641 304)) 388 q 1) := hW
  rw [x_letWait_L107 (B := sF (sF (sF B 387 q hop) 386 q (mF B 641 304)) 388 q 1) hW2 hq hg hb hl hL fu (Or.inr rfl)]
  rfl
theorem x_letWait_old (hW : XW M) {i n q L : Nat} {hop : Int32} (hi : i < n) (hn : n ≤ 8) (hq : mB M 313 i = some q) (hO : okA M 6 q) (hg : (mG M 384 q) = some (q + 1)) (hb : okA M 100 (q + 1)) (hl : sLen (mS M) (q + 1) = 1514) (hL : L ≤ 1514) {fu : Nat} (hx : fX4_waiterFor fu 307 hop M = some (nI i, M)) :
    fX4_letWait fu 307 hop (nI L) M = some (0, sF (wA M (q + 1) (fun j => if j < L then mA M 308 j else mA M (q + 1) j)) 385 q (nI L)) := by
  unfold fX4_letWait
  rw [rc_ok (xw_ok307 hW), ob_some, hx, b2_some, if_pos (nI_pos' (by omega))]
  unfold fX4_letWait_L15
  rw [if_pos rfl]
  unfold fX4_letWait_L48
  rw [gR_ok (xw_ok307 hW), ob_some, xw_g270_307 hW, gB_ok (xw_ok313 hW) (by rw [xw_ln313 hW]; omega) (by omega), ob_some, hq, if_neg (by simp)]
  unfold fX4_letWait_L78
  rw [if_pos rfl, x_letWait_L107 hW hO hg hb hl hL fu (Or.inl rfl)]
theorem x_letWait_full (hW : XW M) {hop : Int32} (hw : (mF M 260 307) = nI 8) {fu : Nat} (L : Int32) (hx : fX4_waiterFor fu 307 hop M = some (-1, M)) : fX4_letWait fu 307 hop L M = some (0, M) := by
  unfold fX4_letWait
  rw [rc_ok (xw_ok307 hW), ob_some, hx, b2_some, if_neg (by decide)]
  unfold fX4_letWait_L15
  rw [if_neg (by decide), gI_ok (xw_ok307 hW), ob_some, hw, if_neg (by decide), rN_z (Or.inl rfl)]
/-- a new place to wait in -/
theorem x_letWait_new (hW : XW M) (hS : XS M) {KN KS n L : Nat} (hX : XRR KN KS M) {hop : Int32} (hw : (mF M 260 307) = nI n) (hn : n < 8) (hall : ∀ j, j < n → mB M 313 j ≠ none) (hL : L ≤ 1514) {fu : Nat} (hx : fX4_waiterFor fu 307 hop M = some (-1, M)) :
    ∃ q M2, fX4_letWait fu 307 hop (nI L) M = some (1, M2) ∧ XW M2 ∧ XS M2 ∧ XRR KN KS M2 ∧ sN (mS M) ≤ sN (mS M2) ∧ (∀ a, a < sN (mS M) → sTy (mS M2) a = sTy (mS M) a ∧ sLen (mS M2) a = sLen (mS M) a) ∧ (∀ f a, a < sN (mS M) → mG M2 f a = mG M f a) ∧
      (∀ a, a < sN (mS M) → a ≠ 313 → mB M2 a = mB M a) ∧ (∀ j, j ≠ n → mB M2 313 j = mB M 313 j) ∧ mB M2 313 n = some q ∧ (∀ i, mB M 306 i ≠ some q) ∧ (∀ j p, j < n → mB M 313 j = some p → p ≠ q) ∧ q ≠ 307 ∧ q ≠ 304 ∧ q + 1 ≠ 308 ∧ (q < sN (mS M) → sTy (mS M) q = 6) ∧ (q + 1 < sN (mS M) → sTy (mS M) q = 6) ∧
      (∀ f a, a < sN (mS M) → a ≠ q → ¬ (f = 260 ∧ a = 307) → mF M2 f a = mF M f a) ∧ (mF M2 260 307) = nI (n + 1) ∧ (mF M2 387 q) = hop ∧ (mF M2 386 q) = (mF M 641 304) ∧ (mF M2 388 q) = 1 ∧ (mF M2 385 q) = nI L ∧
      (∀ a, a < sN (mS M) → a ≠ q + 1 → mA M2 a = mA M a) ∧ (∀ j, j < L → mA M2 (q + 1) j = mA M 308 j) := by
  obtain ⟨nr, nw, nd, nc, b1, b2, b3, b4, r1, r2, r3, r4, hd, k1, k2, k3, k4, k5⟩ := hX
  have hW1 : XW (sF M 260 307 (nI (n + 1))) := hW
  have w307 := xw_ok307 hW
  have hrun0 : fX4_letWait fu 307 hop (nI L) M = fX4_letWait_L48 fu 307 hop (nI L) (nI n) 1 (sF M 260 307 (nI (n + 1))) := by
    unfold fX4_letWait
    rw [rc_ok w307, ob_some, hx, b2_some, if_neg (by decide)]
    unfold fX4_letWait_L15
    have c : nI n < (8 : Int32) := nI_lt (b := 8) hn (by omega)
    rw [if_neg (by decide), gI_ok w307, ob_some, hw, if_pos c, ob_some, ob_some, pF_ok w307, ob_some, nI_1]
  cases hr : mB M 313 n with
  | some q =>
    obtain ⟨hin, hq⟩ := rowN_at r2 hr
    obtain ⟨g1, g2, g3⟩ := hS.1 q hq
    obtain ⟨z1, z2, z3, z4⟩ := q1_ne hW hq
    have hrun : fX4_letWait fu 307 hop (nI L) M = some (1, waitM (sF M 260 307 (nI (n + 1))) q L hop (mF M 641 304)) := by
      rw [hrun0]
      unfold fX4_letWait_L48
      rw [gR_ok (xw_ok307 hW1), ob_some, xw_g270_307 hW1, gB_ok (xw_ok313 hW1) (by rw [xw_ln313 hW1]; omega) (by omega), ob_some, mB_sF, hr, if_neg (by simp), x_letWait_L78 hW1 hq g1 g2 g3 hL]
      rfl
    refine ⟨q, _, hrun, hW, XS_same rfl rfl hS, ⟨nr, nw, nd, nc, b1, b2, b3, b4, r1, r2, r3, r4, hd, k1, k2, k3, k4, k5⟩, Nat.le_refl _, fun _ _ => ⟨rfl, rfl⟩, fun _ _ _ => rfl, fun _ _ _ => rfl, fun _ _ => rfl, hr, fun i e => hd i n q e hr, fun j p hj e1 e2 => ?_, z2, z3, Ne.symm z1, fun _ => hq.2.2, fun _ => hq.2.2, fun f a ha h1 h2 => ?_, ?_, ?_, ?_, ?_, ?_, fun a ha h1 => ?_, fun j hj => ?_⟩
    · subst e2
      have := r2.2.2 j n p e1 hr
      omega
    · unfold waitM
      simp only [mF_sF, mF_wA, h1, h2, reduceIte, Nat.reduceEqDiff, Nat.reduceAdd, Nat.reduceMul, Nat.reduceLT, Nat.reduceLeDiff, and_true, true_and, and_false, false_and, and_self, ne_eq, not_true_eq_false, not_false_eq_true, Option.some.injEq, reduceCtorEq]
    · unfold waitM
      simp only [mF_sF, mF_wA, reduceIte, Nat.reduceEqDiff, Nat.reduceAdd, Nat.reduceMul, Nat.reduceLT, Nat.reduceLeDiff, and_true, true_and, and_false, false_and, and_self, ne_eq, not_true_eq_false, not_false_eq_true, Option.some.injEq, reduceCtorEq]
    · unfold waitM
      simp only [mF_sF, mF_wA, reduceIte, Nat.reduceEqDiff, Nat.reduceAdd, Nat.reduceMul, Nat.reduceLT, Nat.reduceLeDiff, and_true, true_and, and_false, false_and, and_self, ne_eq, not_true_eq_false, not_false_eq_true, Option.some.injEq, reduceCtorEq]
    · unfold waitM
      simp only [mF_sF, mF_wA, reduceIte, Nat.reduceEqDiff, Nat.reduceAdd, Nat.reduceMul, Nat.reduceLT, Nat.reduceLeDiff, and_true, true_and, and_false, false_and, and_self, ne_eq, not_true_eq_false, not_false_eq_true, Option.some.injEq, reduceCtorEq]
    · unfold waitM
      simp only [mF_sF, mF_wA, reduceIte, Nat.reduceEqDiff, Nat.reduceAdd, Nat.reduceMul, Nat.reduceLT, Nat.reduceLeDiff, and_true, true_and, and_false, false_and, and_self, ne_eq, not_true_eq_false, not_false_eq_true, Option.some.injEq, reduceCtorEq]
    · unfold waitM
      simp only [mF_sF, mF_wA, reduceIte, Nat.reduceEqDiff, Nat.reduceAdd, Nat.reduceMul, Nat.reduceLT, Nat.reduceLeDiff, and_true, true_and, and_false, false_and, and_self, ne_eq, not_true_eq_false, not_false_eq_true, Option.some.injEq, reduceCtorEq]
    · unfold waitM
      simp only [mA_sF]
      rw [mA_wA_ne h1]
      rfl
    · unfold waitM
      simp only [mA_sF, mA_wA_self]
      rw [if_pos hj]
  | none =>
    have hnw : nw = n := by
      have h1 : ¬ n < nw := fun q => by obtain ⟨p, q1, -⟩ := r2.1 _ q; rw [hr] at q1; cases q1
      by_cases h3 : nw < n
      · exact absurd (r2.2.1 nw (Nat.le_refl _)) (hall nw h3)
      · omega
    subst hnw
    have hN1 : sN (mS M) + 2 ≤ 600300 := by omega
    have hS1 : sSl (mS M) + 1519 ≤ 7302250 := by omega
    have hW2 : XW (nPk (sF M 260 307 (nI (nw + 1))) 313 nw) := XW_of (M := M) k5 (by show sN (mS M) ≤ sN (mS M) + 2; omega) (fun a ha => ⟨nPk_T (M := sF M 260 307 (nI (nw + 1))) ha, nPk_L (M := sF M 260 307 (nI (nw + 1))) ha⟩) (fun f a ha => nPk_G (M := sF M 260 307 (nI (nw + 1))) (Nat.ne_of_lt ha)) hW
    have q5 : okA (sG (nA (nO (sF M 260 307 (nI (nw + 1))) 6 5) 100 1514) 384 (sN (mS M)) (some (sN (mS M) + 1))) 6 (sN (mS M)) := ⟨by omega, by show sN (mS M) < sN (mS M) + 1 + 1; omega, nPk_Tp (M := sF M 260 307 (nI (nw + 1))) (arr := 0) (i := 0)⟩
    have hrun : fX4_letWait fu 307 hop (nI L) M = some (1, waitM (nPk (sF M 260 307 (nI (nw + 1))) 313 nw) (sN (mS M)) L hop (mF M 641 304)) := by
      rw [hrun0]
      unfold fX4_letWait_L48
      rw [gR_ok (xw_ok307 hW1), ob_some, xw_g270_307 hW1, gB_ok (xw_ok313 hW1) (by rw [xw_ln313 hW1]; omega) (by omega), ob_some, mB_sF, hr, if_pos rfl, mkO_6 (M := sF M 260 307 (nI (nw + 1))) hN1 hS1, b2_some]
      have ei : fX6_init fu (sN (mS (sF M 260 307 (nI (nw + 1))))) (nO (sF M 260 307 (nI (nw + 1))) 6 5) = _ := x_init6 (M := sF M 260 307 (nI (nw + 1))) fu (show 300 ≤ sN (mS M) by omega) hN1 hS1
      rw [ei, ob_some]
      have q1 : okA (sG (nA (nO (sF M 260 307 (nI (nw + 1))) 6 5) 100 1514) 384 (sN (mS M)) (some (sN (mS M) + 1))) 4 307 := nPk_ok (M := sF M 260 307 (nI (nw + 1))) (arr := 0) (i := 0) w307
      have q2 : mG (sG (nA (nO (sF M 260 307 (nI (nw + 1))) 6 5) 100 1514) 384 (sN (mS M)) (some (sN (mS M) + 1))) 270 307 = some 313 := (nPk_G (M := sF M 260 307 (nI (nw + 1))) (arr := 0) (i := 0) (f := 270) (b := 307) (show 307 ≠ sN (mS M) by omega)).trans (xw_g270_307 hW)
      have q3 : okA (sG (nA (nO (sF M 260 307 (nI (nw + 1))) 6 5) 100 1514) 384 (sN (mS M)) (some (sN (mS M) + 1))) 116 313 := nPk_ok (M := sF M 260 307 (nI (nw + 1))) (arr := 0) (i := 0) (xw_ok313 hW)
      have q4 : sLen (mS (sG (nA (nO (sF M 260 307 (nI (nw + 1))) 6 5) 100 1514) 384 (sN (mS M)) (some (sN (mS M) + 1)))) 313 = 8 := (nPk_L (M := sF M 260 307 (nI (nw + 1))) (arr := 0) (i := 0) (b := 313) (show 313 < sN (mS M) by omega)).trans (xw_ln313 hW)
      show ((gR (sG (nA (nO (sF M 260 307 (nI (nw + 1))) 6 5) 100 1514) 384 (sN (mS M)) (some (sN (mS M) + 1))) 4 270 (some 307)).bind fun v6 => (pB (sG (nA (nO (sF M 260 307 (nI (nw + 1))) 6 5) 100 1514) 384 (sN (mS M)) (some (sN (mS M) + 1))) 6 v6 (nI nw) (some (sN (mS M)))).bind fun M7 => fX4_letWait_L78 fu 307 hop (nI L) 1 (some (sN (mS M))) M7) = _
      rw [gR_ok q1, ob_some, q2, pB_ok (t := 116) rfl q3 (by rw [q4]; omega) (by omega) q5, ob_some]
      have := x_letWait_L78 (B := nPk (sF M 260 307 (nI (nw + 1))) 313 nw) hW2 (q := sN (mS M)) (L := L) ⟨by omega, by show sN (mS M) < sN (mS M) + 2; omega, nPk_Tp (M := sF M 260 307 (nI (nw + 1)))⟩ (nPk_Gp (M := sF M 260 307 (nI (nw + 1)))) ⟨by omega, by show sN (mS M) + 1 < sN (mS M) + 2; omega, nPk_Tb (M := sF M 260 307 (nI (nw + 1)))⟩ (nPk_Lb (M := sF M 260 307 (nI (nw + 1)))) hL fu hop
      refine Eq.trans this ?_
      rw [show mF (nPk (sF M 260 307 (nI (nw + 1))) 313 nw) 641 304 = mF M 641 304 from (nPk_F (M := sF M 260 307 (nI (nw + 1))) (show 304 ≠ sN (mS M) by omega)).trans rfl]
    have hB3 : ∀ j, mB (waitM (nPk (sF M 260 307 (nI (nw + 1))) 313 nw) (sN (mS M)) L hop (mF M 641 304)) 313 j = if j = nw then some (sN (mS M)) else mB M 313 j := by
      intro j
      by_cases e : j = nw
      · rw [if_pos e, e]; exact nPk_Bi
      · rw [if_neg e]; exact nPk_B (M := sF M 260 307 (nI (nw + 1))) (fun q => e q.2) (show 313 ≠ sN (mS M) + 1 by omega)
    have hBo : ∀ a, a < sN (mS M) → a ≠ 313 → mB (waitM (nPk (sF M 260 307 (nI (nw + 1))) 313 nw) (sN (mS M)) L hop (mF M 641 304)) a = mB M a := by
      intro a ha h1
      funext j
      exact nPk_B (M := sF M 260 307 (nI (nw + 1))) (fun q => h1 q.1) (show a ≠ sN (mS M) + 1 by omega)
    have hok : ∀ t a, okA M t a → okA (waitM (nPk (sF M 260 307 (nI (nw + 1))) 313 nw) (sN (mS M)) L hop (mF M 641 304)) t a := fun t a h => nPk_ok (M := sF M 260 307 (nI (nw + 1))) (arr := 313) (i := nw) h
    refine ⟨sN (mS M), _, hrun, hW2, XS_same rfl rfl (XS_nPk (M := sF M 260 307 (nI (nw + 1))) (arr := 313) (i := nw) (XS_same rfl rfl hS) k5), ⟨nr, nw + 1, nd, nc, b1, by omega, b3, b4, rowN_same (hBo 306 (by omega) (by decide)) (hok 6) r1, rowN_new hB3 (hok 6) ⟨by omega, by show sN (mS M) < sN (mS M) + 2; omega, nPk_Tp (M := sF M 260 307 (nI (nw + 1)))⟩ (Nat.le_refl _) r2, rowN_same (hBo 316 (by omega) (by decide)) (hok 2) r3, rowN_same (hBo 318 (by omega) (by decide)) (hok 1) r4, ?_, ?_, ?_, k3, k4, ?_⟩, ?_, fun a ha => ⟨nPk_T (M := sF M 260 307 (nI (nw + 1))) ha, nPk_L (M := sF M 260 307 (nI (nw + 1))) ha⟩, fun f a ha => nPk_G (M := sF M 260 307 (nI (nw + 1))) (arr := 313) (i := nw) (Nat.ne_of_lt ha), hBo, ?_, ?_, ?_, ?_, by omega, by omega, by omega, by omega, by omega, fun f a ha h1 h2 => ?_, ?_, ?_, ?_, ?_, ?_, fun a ha h1 => ?_, fun j hj => ?_⟩
    · intro i j p hi hj
      rw [hB3] at hj
      rw [hBo 306 (by omega) (by decide)] at hi
      by_cases e : j = nw
      · rw [if_pos e] at hj
        cases hj
        have := (rowN_at r1 hi).2.2.1
        omega
      · rw [if_neg e] at hj
        exact hd i j p hi hj
    · show sN (mS M) + 2 + _ + _ + _ + _ ≤ KN
      omega
    · show sSl (mS M) + 1519 + _ + _ + _ + _ ≤ KS
      omega
    · show 450 ≤ sN (mS M) + 2
      omega
    · show sN (mS M) ≤ sN (mS M) + 2
      omega
    · intro j hj
      rw [hB3, if_neg hj]
    · rw [hB3, if_pos rfl]
    · intro i e
      have := (rowN_at r1 e).2.2.1
      omega
    · intro j p hj e q
      have := (rowN_at r2 e).2.2.1
      omega
    · unfold waitM
      simp only [mF_sF, mF_wA, h1, reduceIte, Nat.reduceEqDiff, Nat.reduceAdd, Nat.reduceMul, Nat.reduceLT, Nat.reduceLeDiff, and_true, true_and, and_false, false_and, and_self, ne_eq, not_true_eq_false, not_false_eq_true, Option.some.injEq, reduceCtorEq]
      rw [nPk_F (M := sF M 260 307 (nI (nw + 1))) h1, mF_sF, if_neg h2]
    · unfold waitM
      simp only [mF_sF, mF_wA, reduceIte, Nat.reduceEqDiff, Nat.reduceAdd, Nat.reduceMul, Nat.reduceLT, Nat.reduceLeDiff, and_true, true_and, and_false, false_and, and_self, ne_eq, not_true_eq_false, not_false_eq_true, Option.some.injEq, reduceCtorEq]
      rw [nPk_F (M := sF M 260 307 (nI (nw + 1))) (show 307 ≠ sN (mS M) by omega), mF_sF, if_pos ⟨rfl, rfl⟩]
    · unfold waitM
      simp only [mF_sF, mF_wA, reduceIte, Nat.reduceEqDiff, Nat.reduceAdd, Nat.reduceMul, Nat.reduceLT, Nat.reduceLeDiff, and_true, true_and, and_false, false_and, and_self, ne_eq, not_true_eq_false, not_false_eq_true, Option.some.injEq, reduceCtorEq]
    · unfold waitM
      simp only [mF_sF, mF_wA, reduceIte, Nat.reduceEqDiff, Nat.reduceAdd, Nat.reduceMul, Nat.reduceLT, Nat.reduceLeDiff, and_true, true_and, and_false, false_and, and_self, ne_eq, not_true_eq_false, not_false_eq_true, Option.some.injEq, reduceCtorEq]
    · unfold waitM
      simp only [mF_sF, mF_wA, reduceIte, Nat.reduceEqDiff, Nat.reduceAdd, Nat.reduceMul, Nat.reduceLT, Nat.reduceLeDiff, and_true, true_and, and_false, false_and, and_self, ne_eq, not_true_eq_false, not_false_eq_true, Option.some.injEq, reduceCtorEq]
    · unfold waitM
      simp only [mF_sF, mF_wA, reduceIte, Nat.reduceEqDiff, Nat.reduceAdd, Nat.reduceMul, Nat.reduceLT, Nat.reduceLeDiff, and_true, true_and, and_false, false_and, and_self, ne_eq, not_true_eq_false, not_false_eq_true, Option.some.injEq, reduceCtorEq]
    · unfold waitM
      simp only [mA_sF]
      rw [mA_wA_ne h1]
      funext j
      exact nPk_A (M := sF M 260 307 (nI (nw + 1))) h1
    · unfold waitM
      simp only [mA_sF, mA_wA_self]
      rw [if_pos hj]
      exact nPk_A (M := sF M 260 307 (nI (nw + 1))) (show 308 ≠ sN (mS M) + 1 by omega)
end LetWait
