/-! ===== part 69: how the two systems' memories answer each other: shapes, frames that were sent ===== -/
/-- the objects that the class makes as it needs them -/
def XS (M : Mm) : Prop :=
  (∀ p, okA M 6 p → (mG M 384 p) = some (p + 1) ∧ okA M 100 (p + 1) ∧ sLen (mS M) (p + 1) = 1514) ∧
  (∀ d, okA M 2 d → (mG M 128 d) = some (d + 1) ∧ (mG M 136 d) = some (d + 2) ∧ okA M 100 (d + 1) ∧ sLen (mS M) (d + 1) = 4096 ∧ okA M 101 (d + 2) ∧ sLen (mS M) (d + 2) = 128) ∧
  (∀ c, okA M 1 c → (mG M 79 c) = some (c + 1) ∧ (mG M 80 c) = some (c + 2) ∧ (mG M 81 c) = some (c + 5) ∧ okA M 100 (c + 1) ∧ sLen (mS M) (c + 1) = 256 ∧ okA M 0 (c + 2) ∧ (mG M 5 (c + 2)) = some (c + 3) ∧ (mG M 6 (c + 2)) = some (c + 4) ∧ okA M 100 (c + 3) ∧ sLen (mS M) (c + 3) = 4096 ∧ okA M 101 (c + 4) ∧ sLen (mS M) (c + 4) = 128 ∧ okA M 5 (c + 5))
/-- a row of such objects: the first n places are filled, each with its own -/
def rowN (M : Mm) (arr t n : Nat) : Prop := (∀ i, i < n → ∃ p, mB M arr i = some p ∧ okA M t p) ∧ (∀ i, n ≤ i → mB M arr i = none) ∧ (∀ i j p, mB M arr i = some p → mB M arr j = some p → i = j)
/-- all rows, and the room that is left -/
def XRR (KN KS : Nat) (M : Mm) : Prop := ∃ nr nw nd nc, nr ≤ 32 ∧ nw ≤ 8 ∧ nd ≤ 4 ∧ nc ≤ 16 ∧ rowN M 306 6 nr ∧ rowN M 313 6 nw ∧ rowN M 316 2 nd ∧ rowN M 318 1 nc ∧ (∀ i j p, mB M 306 i = some p → mB M 313 j = some p → False) ∧
  sN (mS M) + 2 * (32 - nr) + 2 * (8 - nw) + 3 * (4 - nd) + 6 * (16 - nc) ≤ KN ∧ sSl (mS M) + 1519 * (32 - nr) + 1519 * (8 - nw) + 4233 * (4 - nd) + 4524 * (16 - nc) ≤ KS ∧ KN ≤ 600300 ∧ KS ≤ 7302250 ∧ 450 ≤ sN (mS M)
/-- the latest frames -/
def JQ (T : Nat) (A M : Mm) : Prop := (mF A 1047 323) = nI T ∧ (mF M 642 304) = nI T ∧ ∀ s, s < 32 → s < T → ∃ p n, mB M 306 s = some p ∧ 60 ≤ n ∧ n ≤ 1514 ∧ mA A 333 s = nI n ∧ (mF M 385 p) = nI n ∧ mA A 334 s = (mF M 386 p) ∧ ∀ j, j < n → mA A 332 (s * 1514 + j) = mA M (p + 1) j
/-- nothing but the ring of frames is other than it was -/
def FrR (M M' : Mm) : Prop := sN (mS M) ≤ sN (mS M') ∧ (∀ a, a < sN (mS M) → sTy (mS M') a = sTy (mS M) a ∧ sLen (mS M') a = sLen (mS M) a) ∧ (∀ f a, a < sN (mS M) → mG M' f a = mG M f a) ∧
  (∀ a, a < sN (mS M) → a ≠ 306 → mB M' a = mB M a) ∧ (∀ i p, mB M' 306 i = some p → mB M 306 i = some p ∨ sN (mS M) ≤ p) ∧
  (∀ f a, a < sN (mS M) → ¬ (f = 642 ∧ a = 304) → (∀ i, mB M 306 i ≠ some a) → mF M' f a = mF M f a) ∧
  (∀ a, a < sN (mS M) → (∀ i p, mB M 306 i = some p → a ≠ p + 1) → mA M' a = mA M a)
theorem okA_mono {M M' : Mm} (h1 : sN (mS M) ≤ sN (mS M')) (h2 : ∀ a, a < sN (mS M) → sTy (mS M') a = sTy (mS M) a ∧ sLen (mS M') a = sLen (mS M) a) {t a : Nat} (h : okA M t a) : okA M' t a := ⟨h.1, by have := h.2.1; omega, by rw [(h2 a h.2.1).1]; exact h.2.2⟩
theorem okA_back {M M' : Mm} (h2 : ∀ a, a < sN (mS M) → sTy (mS M') a = sTy (mS M) a ∧ sLen (mS M') a = sLen (mS M) a) {t a : Nat} (ha : a < sN (mS M)) (h : okA M' t a) : okA M t a := ⟨h.1, ha, by rw [← (h2 a ha).1]; exact h.2.2⟩
theorem XS_same {M M' : Mm} (hS : mS M' = mS M) (hG : mG M' = mG M) (h : XS M) : XS M' := by
  unfold XS okA at *
  rw [hS, hG]
  exact h
theorem XS_nPk {M : Mm} {arr i : Nat} (h : XS M) (h0 : 450 ≤ sN (mS M)) : XS (nPk M arr i) := by
  have key : ∀ t a, t ≠ 6 → t ≠ 100 → okA (nPk M arr i) t a → okA M t a := by
    intro t a h6 h100 ha
    obtain ⟨q1, q2, q3⟩ := ha
    rw [nPk_N] at q2
    by_cases e1 : a = sN (mS M)
    · subst e1; rw [nPk_Tp] at q3; exact absurd q3.symm h6
    · by_cases e2 : a = sN (mS M) + 1
      · subst e2; rw [nPk_Tb] at q3; exact absurd q3.symm h100
      · have e3 : a < sN (mS M) := by omega
        rw [nPk_T e3] at q3
        exact ⟨q1, e3, q3⟩
  obtain ⟨h1, h2, h3⟩ := h
  refine ⟨fun p hp => ?_, fun d hd => ?_, fun c hc => ?_⟩
  · by_cases e : p = sN (mS M)
    · subst e
      exact ⟨nPk_Gp, ⟨by omega, by rw [nPk_N]; omega, nPk_Tb⟩, nPk_Lb⟩
    · have e2 : p < sN (mS M) := by
        have h4 := hp.2.1
        rw [nPk_N] at h4
        by_cases e2 : p = sN (mS M) + 1
        · subst e2
          have h5 := hp.2.2
          rw [nPk_Tb] at h5
          cases h5
        · omega
      have hp' : okA M 6 p := ⟨hp.1, e2, by rw [← nPk_T (arr := arr) (i := i) e2]; exact hp.2.2⟩
      obtain ⟨q1, q2, q3⟩ := h1 p hp'
      exact ⟨by rw [nPk_G e]; exact q1, nPk_ok q2, by rw [nPk_L q2.2.1]; exact q3⟩
  · have hd' := key 2 d (by decide) (by decide) hd
    obtain ⟨q1, q2, q3, q4, q5, q6⟩ := h2 d hd'
    have e : d ≠ sN (mS M) := Nat.ne_of_lt hd'.2.1
    exact ⟨by rw [nPk_G e]; exact q1, by rw [nPk_G e]; exact q2, nPk_ok q3, by rw [nPk_L q3.2.1]; exact q4, nPk_ok q5, by rw [nPk_L q5.2.1]; exact q6⟩
  · have hd' := key 1 c (by decide) (by decide) hc
    obtain ⟨q1, q2, q3, q4, q5, q6, q7, q8, q9, q10, q11, q12, q13⟩ := h3 c hd'
    have e : c ≠ sN (mS M) := Nat.ne_of_lt hd'.2.1
    have e2 : c + 2 ≠ sN (mS M) := Nat.ne_of_lt q6.2.1
    exact ⟨by rw [nPk_G e]; exact q1, by rw [nPk_G e]; exact q2, by rw [nPk_G e]; exact q3, nPk_ok q4, by rw [nPk_L q4.2.1]; exact q5, nPk_ok q6, by rw [nPk_G e2]; exact q7, by rw [nPk_G e2]; exact q8, nPk_ok q9, by rw [nPk_L q9.2.1]; exact q10, nPk_ok q11, by rw [nPk_L q11.2.1]; exact q12, nPk_ok q13⟩
theorem rowN_same {M M' : Mm} {arr t n : Nat} (hB : mB M' arr = mB M arr) (hO : ∀ a, okA M t a → okA M' t a) (h : rowN M arr t n) : rowN M' arr t n := by
  unfold rowN at *
  rw [hB]
  exact ⟨fun i hi => by obtain ⟨p, q1, q2⟩ := h.1 i hi; exact ⟨p, q1, hO p q2⟩, h.2.1, h.2.2⟩
theorem rowN_new {M M' : Mm} {arr t n q : Nat} (hB : ∀ j, mB M' arr j = if j = n then some q else mB M arr j) (hO : ∀ a, okA M t a → okA M' t a) (hq : okA M' t q) (hnew : sN (mS M) ≤ q) (h : rowN M arr t n) : rowN M' arr t (n + 1) := by
  obtain ⟨h1, h2, h3⟩ := h
  have hlt : ∀ i p, mB M arr i = some p → p < sN (mS M) := by
    intro i p e
    by_cases hi : i < n
    · obtain ⟨p', q1, q2⟩ := h1 i hi
      rw [q1] at e; cases e
      exact q2.2.1
    · rw [h2 i (by omega)] at e; cases e
  refine ⟨fun i hi => ?_, fun i hi => ?_, fun i j p hi hj => ?_⟩
  · by_cases e : i = n
    · exact ⟨q, by rw [hB, if_pos e], hq⟩
    · obtain ⟨p, q1, q2⟩ := h1 i (by omega)
      exact ⟨p, by rw [hB, if_neg e]; exact q1, hO p q2⟩
  · rw [hB, if_neg (by omega)]; exact h2 i (by omega)
  · rw [hB] at hi hj
    by_cases e1 : i = n
    · by_cases e2 : j = n
      · omega
      · rw [if_pos e1] at hi
        rw [if_neg e2] at hj
        cases hi
        have := hlt j _ hj
        omega
    · by_cases e2 : j = n
      · rw [if_neg e1] at hi
        rw [if_pos e2] at hj
        cases hj
        have := hlt i _ hi
        omega
      · rw [if_neg e1] at hi
        rw [if_neg e2] at hj
        exact h3 i j p hi hj
theorem rowN_at {M : Mm} {arr t n i p : Nat} (h : rowN M arr t n) (hi : mB M arr i = some p) : i < n ∧ okA M t p := by
  by_cases e : i < n
  · obtain ⟨q, q1, q2⟩ := h.1 i e
    rw [q1] at hi; cases hi
    exact ⟨e, q2⟩
  · rw [h.2.1 i (by omega)] at hi; cases hi
/-- what one frame that goes out leaves behind in the class -/
theorem x_wput_all (fu : Nat) (hf : 61 ≤ fu) {M : Mm} {KN KS : Nat} (hW : XW M) (hS : XS M) (hX : XRR KN KS M) {src : Nat} (n T : Nat) (h42 : 42 ≤ n) (hn : n ≤ 1514) (hT : (mF M 642 304) = nI T) (hT2 : T < 2 ^ 30) (hs : okA M 100 src) (hsl : sLen (mS M) src < 2 ^ 30) (hns : n ≤ sLen (mS M) src)
    (hsr : ∀ i p, mB M 306 i = some p → src ≠ p + 1) (hring : ∀ s, s < 32 → s < T → mB M 306 s ≠ none) :
    ∃ p M', fX10_put fu 304 (some src) (nI n) M = some M' ∧ XW M' ∧ XS M' ∧ XRR KN KS M' ∧ FrR M M' ∧ (mF M' 642 304) = nI (T + 1) ∧ mB M' 306 (T % 32) = some p ∧ (∀ s, s ≠ T % 32 → mB M' 306 s = mB M 306 s) ∧ (mF M' 385 p) = nI (max n 60) ∧ (mF M' 386 p) = (mF M 641 304) ∧ (∀ j, j < max n 60 → mA M' (p + 1) j = if j < n then mA M src j else 0) ∧
      (∀ s q, s ≠ T % 32 → mB M 306 s = some q → (mF M' 385 q) = (mF M 385 q) ∧ (mF M' 386 q) = (mF M 386 q) ∧ mA M' (q + 1) = mA M (q + 1)) := by
  obtain ⟨nr, nw, nd, nc, b1, b2, b3, b4, r1, r2, r3, r4, hd, k1, k2, k3, k4, k5⟩ := hX
  have hs32 : T % 32 < 32 := Nat.mod_lt _ (by decide)
  have w304 := xw_ok304 hW
  cases hr : mB M 306 (T % 32) with
  | some p =>
    obtain ⟨hin, hp⟩ := rowN_at r1 hr
    obtain ⟨g1, g2, g3⟩ := hS.1 p hp
    have hne := hsr _ p hr
    have p304 : p ≠ 304 := by
      rintro rfl
      have := hp.2.2.symm.trans w304.2.2
      cases this
    refine ⟨p, wputM M src p n T, x_wput fu hf hW n T h42 hn hT hT2 hs hsl hns hr hp g1 g2 g3 hne, hW, XS_same rfl rfl hS, ⟨nr, nw, nd, nc, b1, b2, b3, b4, r1, r2, r3, r4, hd, k1, k2, k3, k4, k5⟩, ⟨Nat.le_refl _, fun _ _ => ⟨rfl, rfl⟩, fun _ _ _ => rfl, fun _ _ _ => rfl, fun _ _ e => Or.inl e, fun f a ha h1 h2 => ?_, fun a ha h1 => ?_⟩, ?_, hr, fun _ _ => rfl, ?_, ?_, fun j hj => ?_, fun s q hs hq => ⟨?_, ?_, ?_⟩⟩
    · have : a ≠ p := fun e => h2 (T % 32) (by rw [hr, e])
      unfold wputM
      simp only [mF_sF, mF_wA]
      rw [if_neg h1, if_neg (fun q => this q.2), if_neg (fun q => this q.2)]
    · unfold wputM
      simp only [mA_sF]
      exact mA_wA_ne (h1 _ p hr)
    · unfold wputM
      simp only [mF_sF, mF_wA, reduceIte, Nat.reduceEqDiff, Nat.reduceAdd, Nat.reduceMul, Nat.reduceLT, Nat.reduceLeDiff, and_true, true_and, and_false, false_and, and_self, ne_eq, not_true_eq_false, not_false_eq_true, Option.some.injEq, reduceCtorEq]
    · unfold wputM
      simp only [mF_sF, mF_wA, reduceIte, Nat.reduceEqDiff, Nat.reduceAdd, Nat.reduceMul, Nat.reduceLT, Nat.reduceLeDiff, and_true, true_and, and_false, false_and, and_self, ne_eq, not_true_eq_false, not_false_eq_true, Option.some.injEq, reduceCtorEq]
    · unfold wputM
      simp only [mF_sF, mF_wA, reduceIte, Nat.reduceEqDiff, Nat.reduceAdd, Nat.reduceMul, Nat.reduceLT, Nat.reduceLeDiff, and_true, true_and, and_false, false_and, and_self, ne_eq, not_true_eq_false, not_false_eq_true, Option.some.injEq, reduceCtorEq]
    · unfold wputM
      simp only [mA_sF, mA_wA_self]
      unfold pkB
      by_cases c1 : j < n
      · rw [if_pos c1, if_pos c1]
      · rw [if_neg c1, if_neg c1, if_pos (by omega)]
    · have : q ≠ p := fun e => hs (r1.2.2 s (T % 32) p (by rw [hq, e]) hr)
      unfold wputM
      simp only [mF_sF, mF_wA, this, reduceIte, Nat.reduceEqDiff, Nat.reduceAdd, Nat.reduceMul, Nat.reduceLT, Nat.reduceLeDiff, and_true, true_and, and_false, false_and, and_self, ne_eq, not_true_eq_false, not_false_eq_true, Option.some.injEq, reduceCtorEq]
    · have : q ≠ p := fun e => hs (r1.2.2 s (T % 32) p (by rw [hq, e]) hr)
      unfold wputM
      simp only [mF_sF, mF_wA, this, reduceIte, Nat.reduceEqDiff, Nat.reduceAdd, Nat.reduceMul, Nat.reduceLT, Nat.reduceLeDiff, and_true, true_and, and_false, false_and, and_self, ne_eq, not_true_eq_false, not_false_eq_true, Option.some.injEq, reduceCtorEq]
    · have : q ≠ p := fun e => hs (r1.2.2 s (T % 32) p (by rw [hq, e]) hr)
      unfold wputM
      simp only [mA_sF]
      exact mA_wA_ne (by omega)
  | none =>
    have hnr : nr = T % 32 := by
      have h1 : ¬ T % 32 < nr := fun q => by obtain ⟨p, q1, -⟩ := r1.1 _ q; rw [hr] at q1; cases q1
      by_cases h2 : T % 32 < T
      · exact absurd hr (hring _ hs32 h2)
      · by_cases h3 : nr < T % 32
        · exact absurd (r1.2.1 nr (Nat.le_refl _)) (hring nr (by omega) (by omega))
        · omega
    subst hnr
    have hN1 : sN (mS M) + 2 ≤ 600300 := by omega
    have hS1 : sSl (mS M) + 1519 ≤ 7302250 := by omega
    have hW1 : XW (nPk M 306 (T % 32)) := XW_of k5 (by rw [nPk_N]; omega) (fun a ha => ⟨nPk_T ha, nPk_L ha⟩) (fun f a ha => nPk_G (by omega)) hW
    have hT1 : mF (nPk M 306 (T % 32)) 642 304 = nI T := by rw [nPk_F (by omega)]; exact hT
    have hs1 : src < sN (mS M) := hs.2.1
    have hrun : fX10_put fu 304 (some src) (nI n) M = some (wputM (nPk M 306 (T % 32)) src (sN (mS M)) n T) := by
      unfold fX10_put
      have c1 : ¬ nI n < (42 : Int32) := nI_nlt (b := 42) h42 (by omega)
      have c2 : ¬ (1514 : Int32) < nI n := nI_nlt (a := 1514) hn (by omega)
      have e3 : irm (nI T) (32 : Int32) = nI (T % 32) := irm_nI (d := 32) (by omega) (by omega) (by omega)
      rw [if_neg c1, if_neg c2, aL_ok hs rfl, ob_some, if_pos (nI_le hns (by omega)), gI_ok w304, ob_some, hT, e3, if_pos (nI_pos' (by omega)), gR_ok w304, ob_some, xw_g644_304 hW, gB_ok (xw_ok306 hW) (by rw [xw_ln306 hW]; omega) (by omega), ob_some, hr, if_pos rfl, mkO_6 hN1 hS1, b2_some, x_init6 fu (by omega) hN1 hS1, ob_some]
      have q1 : okA (sG (nA (nO M 6 5) 100 1514) 384 (sN (mS M)) (some (sN (mS M) + 1))) 10 304 := nPk_ok (arr := 0) (i := 0) w304
      have q2 : mG (sG (nA (nO M 6 5) 100 1514) 384 (sN (mS M)) (some (sN (mS M) + 1))) 644 304 = some 306 := (nPk_G (arr := 0) (i := 0) (f := 644) (b := 304) (by omega)).trans (xw_g644_304 hW)
      have q3 : okA (sG (nA (nO M 6 5) 100 1514) 384 (sN (mS M)) (some (sN (mS M) + 1))) 116 306 := nPk_ok (arr := 0) (i := 0) (xw_ok306 hW)
      have q4 : sLen (mS (sG (nA (nO M 6 5) 100 1514) 384 (sN (mS M)) (some (sN (mS M) + 1)))) 306 = 32 := (nPk_L (arr := 0) (i := 0) (b := 306) (by omega)).trans (xw_ln306 hW)
      have q5 : okA (sG (nA (nO M 6 5) 100 1514) 384 (sN (mS M)) (some (sN (mS M) + 1))) 6 (sN (mS M)) := ⟨by omega, by show sN (mS M) < sN (mS M) + 1 + 1; omega, nPk_Tp (arr := 0) (i := 0)⟩
      rw [gR_ok q1, ob_some, q2, pB_ok (t := 116) rfl q3 (by rw [q4]; omega) (by omega) q5, ob_some]
      exact x_wput_L73 fu hf hW1 (p := sN (mS M)) (src := src) ⟨by omega, by rw [nPk_N]; omega, nPk_Tp⟩ nPk_Gp ⟨by omega, by rw [nPk_N]; omega, nPk_Tb⟩ nPk_Lb (nPk_ok hs) (by rw [nPk_L hs1]; exact hsl) (by omega) n T hn (by rw [nPk_L hs1]; exact hns) hT1
    have hF : ∀ f a, a < sN (mS M) → ¬ (f = 642 ∧ a = 304) → mF (wputM (nPk M 306 (T % 32)) src (sN (mS M)) n T) f a = mF M f a := by
      intro f a ha h1
      unfold wputM
      simp only [mF_sF, mF_wA]
      rw [if_neg h1, if_neg (fun q => by omega), if_neg (fun q => by omega)]
      exact nPk_F (by omega)
    have hA : ∀ a, a < sN (mS M) → mA (wputM (nPk M 306 (T % 32)) src (sN (mS M)) n T) a = mA M a := by
      intro a ha
      unfold wputM
      simp only [mA_sF]
      rw [mA_wA_ne (by omega)]
      funext j
      exact nPk_A (by omega)
    have hBo : ∀ a, a < sN (mS M) → a ≠ 306 → mB (wputM (nPk M 306 (T % 32)) src (sN (mS M)) n T) a = mB M a := by
      intro a ha h1
      funext j
      exact nPk_B (fun q => h1 q.1) (by omega)
    have hB3 : ∀ j, mB (wputM (nPk M 306 (T % 32)) src (sN (mS M)) n T) 306 j = if j = T % 32 then some (sN (mS M)) else mB M 306 j := by
      intro j
      by_cases e : j = T % 32
      · rw [if_pos e, e]; exact nPk_Bi
      · rw [if_neg e]; exact nPk_B (fun q => e q.2) (by omega)
    have hok : ∀ t a, okA M t a → okA (wputM (nPk M 306 (T % 32)) src (sN (mS M)) n T) t a := fun t a => nPk_ok
    have hring2 : ∀ s q, mB M 306 s = some q → q < sN (mS M) := fun s q hq => (rowN_at r1 hq).2.2.1
    refine ⟨sN (mS M), wputM (nPk M 306 (T % 32)) src (sN (mS M)) n T, hrun, hW1, XS_same rfl rfl (XS_nPk hS k5), ⟨T % 32 + 1, nw, nd, nc, by omega, b2, b3, b4, rowN_new hB3 (hok 6) ⟨by omega, Nat.lt_of_lt_of_eq (by omega) nPk_N.symm, nPk_Tp⟩ (Nat.le_refl _) r1, rowN_same (hBo 313 (by omega) (by decide)) (hok 6) r2, rowN_same (hBo 316 (by omega) (by decide)) (hok 2) r3, rowN_same (hBo 318 (by omega) (by decide)) (hok 1) r4, ?_, ?_, ?_, k3, k4, ?_⟩, ⟨?_, fun a ha => ⟨nPk_T ha, nPk_L ha⟩, fun f a ha => nPk_G (arr := 306) (i := T % 32) (by omega), hBo, ?_, fun f a ha h1 _ => hF f a ha h1, fun a ha _ => hA a ha⟩, ?_, ?_, ?_, ?_, ?_, fun j hj => ?_, fun s q hs hq => ⟨hF _ _ (hring2 s q hq) (fun e => by omega), hF _ _ (hring2 s q hq) (fun e => by omega), hA _ ?_⟩⟩
    · intro i j p hi hj
      rw [hB3] at hi
      rw [hBo 313 (by omega) (by decide)] at hj
      by_cases e : i = T % 32
      · rw [if_pos e] at hi
        cases hi
        have := (rowN_at r2 hj).2.2.1
        omega
      · rw [if_neg e] at hi
        exact hd i j p hi hj
    · show sN (mS M) + 2 + _ + _ + _ + _ ≤ KN
      omega
    · show sSl (mS M) + 1519 + _ + _ + _ + _ ≤ KS
      omega
    · show 450 ≤ sN (mS M) + 2
      omega
    · show sN (mS M) ≤ sN (mS M) + 2
      omega
    · intro i p hp
      rw [hB3] at hp
      by_cases e : i = T % 32
      · rw [if_pos e] at hp
        cases hp
        exact Or.inr (Nat.le_refl _)
      · rw [if_neg e] at hp
        exact Or.inl hp
    · unfold wputM
      simp only [mF_sF, mF_wA, reduceIte, Nat.reduceEqDiff, Nat.reduceAdd, Nat.reduceMul, Nat.reduceLT, Nat.reduceLeDiff, and_true, true_and, and_false, false_and, and_self, ne_eq, not_true_eq_false, not_false_eq_true, Option.some.injEq, reduceCtorEq]
    · rw [hB3, if_pos rfl]
    · intro s hs
      rw [hB3, if_neg hs]
    · unfold wputM
      simp only [mF_sF, mF_wA, reduceIte, Nat.reduceEqDiff, Nat.reduceAdd, Nat.reduceMul, Nat.reduceLT, Nat.reduceLeDiff, and_true, true_and, and_false, false_and, and_self, ne_eq, not_true_eq_false, not_false_eq_true, Option.some.injEq, reduceCtorEq]
    · unfold wputM
      simp only [mF_sF, mF_wA, reduceIte, Nat.reduceEqDiff, Nat.reduceAdd, Nat.reduceMul, Nat.reduceLT, Nat.reduceLeDiff, and_true, true_and, and_false, false_and, and_self, ne_eq, not_true_eq_false, not_false_eq_true, Option.some.injEq, reduceCtorEq]
      rw [nPk_F (by omega)]
    · unfold wputM
      simp only [mA_sF, mA_wA_self]
      unfold pkB
      by_cases c1 : j < n
      · rw [if_pos c1, if_pos c1]; exact nPk_A (by omega)
      · rw [if_neg c1, if_neg c1]
        by_cases c2 : j < 60
        · rw [if_pos c2]
        · omega
    · have := hring2 s q hq
      have hq2 := (hS.1 q (rowN_at r1 hq).2).2.1.2.1
      exact hq2
/-- nothing but the frames that were sent is other than it was, in the reference -/
def FrS (A A' : Mm) : Prop := mS A' = mS A ∧ mG A' = mG A ∧ mB A' = mB A ∧ (∀ f a, ¬ (f = 1047 ∧ a = 323) → mF A' f a = mF A f a) ∧ (∀ a, (a < 331 ∨ 334 < a) → mA A' a = mA A a)
theorem RW_of {A A' : Mm} (hS : mS A' = mS A) (hG : mG A' = mG A) (hB : mB A' = mB A) (h : RW A) : RW A' := by
  unfold RW okA at *
  rw [hS, hG, hB]
  exact h
theorem mA_sentM_o (A : Mm) (G : Nat → Int32) (n T nw : Nat) {a : Nat} (h : a < 331 ∨ 334 < a) : mA (sentM A G n T nw) a = mA A a := by
  unfold sentM
  simp only [mA_sF]
  rw [mA_wA_ne (by omega), mA_wA_ne (by omega), mA_wA_ne (by omega), mA_wA_ne (by omega)]
theorem sp_send (fu : Nat) (hf : 2000 ≤ fu) {A M : Mm} {KN KS T nw c : Nat} (hR : RW A) (hBA : By A) (hW : XW M) (hS : XS M) (hX : XRR KN KS M) (hQ : JQ T A M) (hT2 : T < 2 ^ 30) (hnA : (mF A 1034 323) = nI nw) (hnM : (mF M 641 304) = nI nw) (h28 : 28 ≤ c) (hc : c ≤ 1500) (th tl kind : Int32) {src : Nat}
    (hs : okA M 100 src) (hsl : sLen (mS M) src < 2 ^ 30) (hns : 14 + c ≤ sLen (mS M) src) (hsr : ∀ i p, mB M 306 i = some p → src ≠ p + 1) (hG : ∀ j, j < 14 + c → mA M src j = hd5 (mA A 331) th tl (mF A 1032 323) (mF A 1033 323) kind j) :
    ∃ A' M', fX16_send fu 323 th tl kind (nI c) A = some A' ∧ fX10_put fu 304 (some src) (nI (14 + c)) M = some M' ∧ JQ (T + 1) A' M' ∧ XW M' ∧ XS M' ∧ XRR KN KS M' ∧ FrS A A' ∧ FrR M M' := by
  obtain ⟨q1, q2, q3⟩ := hQ
  have hring : ∀ s, s < 32 → s < T → mB M 306 s ≠ none := fun s h1 h2 e => by
    obtain ⟨p, n, e1, -⟩ := q3 s h1 h2
    rw [e] at e1; cases e1
  obtain ⟨p, M', hrun, w1, w2, w3, w4, w5, w6, w7, w8, w9, w10, w11⟩ := x_wput_all fu (by omega) hW hS hX (src := src) (14 + c) T (by omega) (by omega) q2 hT2 hs hsl hns hsr hring
  refine ⟨_, M', m_send hR hBA hf hc q1 hT2 hnA th tl kind, hrun, ⟨?_, w5, ?_⟩, w1, w2, w3, ⟨rfl, rfl, rfl, ?_, ?_⟩, w4⟩
  · unfold sentM
    simp only [mF_sF, reduceIte, Nat.reduceEqDiff, Nat.reduceAdd, Nat.reduceMul, Nat.reduceLT, Nat.reduceLeDiff, and_true, true_and, and_false, false_and, and_self, ne_eq, not_true_eq_false, not_false_eq_true, Option.some.injEq, reduceCtorEq]
  · intro s h1 h2
    have e32 : mA (sentM A (zf (hd5 (mA A 331) th tl (mF A 1032 323) (mF A 1033 323) kind) (14 + c)) (max (14 + c) 60) T nw) 332 = cpy (zf (hd5 (mA A 331) th tl (mF A 1032 323) (mF A 1033 323) kind) (14 + c)) (mA A 332) (T % 32 * 1514) (max (14 + c) 60) := by
      unfold sentM
      simp only [mA_sF]
      rw [mA_wA_ne (by decide), mA_wA_ne (by decide), mA_wA_self]
    have e33 : mA (sentM A (zf (hd5 (mA A 331) th tl (mF A 1032 323) (mF A 1033 323) kind) (14 + c)) (max (14 + c) 60) T nw) 333 = st1 (mA A 333) (T % 32) (nI (max (14 + c) 60)) := by
      unfold sentM
      simp only [mA_sF]
      rw [mA_wA_ne (by decide), mA_wA_self]
    have e34 : mA (sentM A (zf (hd5 (mA A 331) th tl (mF A 1032 323) (mF A 1033 323) kind) (14 + c)) (max (14 + c) 60) T nw) 334 = st1 (mA A 334) (T % 32) (nI nw) := by
      unfold sentM
      simp only [mA_sF]
      rw [mA_wA_self]
    rw [e32, e33, e34]
    by_cases e : s = T % 32
    · refine ⟨p, max (14 + c) 60, by rw [e]; exact w6, by omega, by omega, ?_, w8, ?_, ?_⟩
      · unfold st1; rw [if_pos e]
      · unfold st1; rw [if_pos e, w9, hnM]
      · intro j hj
        rw [w10 j hj, e]
        unfold cpy zf
        rw [if_pos (by omega), show T % 32 * 1514 + j - T % 32 * 1514 = j by omega]
        by_cases c1 : j < 14 + c
        · rw [if_pos c1, if_neg (by omega), hG j c1]
        · rw [if_neg c1, if_pos (by omega)]
    · obtain ⟨p', n', r1, r2, r3, r4, r5, r6, r7⟩ := q3 s h1 (by omega)
      obtain ⟨v1, v2, v3⟩ := w11 s p' e r1
      refine ⟨p', n', by rw [w7 s e]; exact r1, r2, r3, ?_, by rw [v1]; exact r5, ?_, ?_⟩
      · unfold st1; rw [if_neg e]; exact r4
      · unfold st1; rw [if_neg e, v2]; exact r6
      · intro j hj
        rw [v3, ← r7 j hj]
        unfold cpy
        rw [if_neg]
        have : s < T % 32 ∨ T % 32 < s := by omega
        omega
  · intro f a h
    unfold sentM
    simp only [mF_sF, mF_wA]
    rw [if_neg h]
  · intro a h
    exact mA_sentM_o A _ _ _ _ h
