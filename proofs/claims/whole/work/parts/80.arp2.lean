/-! ===== part 80: what an ARP packet does, in both ===== -/
section Arp2
variable {A M : Mm}
/-- the row of a waiter that is waited for no more may hold anything -/
theorem JL0_row {KN KS t T n O nw q d : Nat} {s o : Nat → Nat} (G : Nat → Int32) (hd : n ≤ d) (hq : mB M 313 d = some q) (hO : O ≤ T + t ∧ t ≤ 1000) (hJ : JWa n O nw s o A M) (h : JL0 KN KS t T A M) : JL0 KN KS t T A (wA M (q + 1) G) ∧ FrM M (wA M (q + 1) G) := by
  obtain ⟨hR, hW, hS, hX, hP, hQ, hE, -⟩ := h
  have hX' := hX
  obtain ⟨nr, nww, nd, nc, b1, b2, b3, b4, r1, r2, r3, r4, hdd, -⟩ := hX'
  have hOq := (rowN_at r2 hq).2
  have hq1 := (hS.1 q hOq).2.1
  have hne : ∀ a, 309 ≤ a → a ≤ 312 → a ≠ q + 1 := by
    rintro a h1 h2 rfl
    have : q + 1 = 309 ∨ q + 1 = 310 ∨ q + 1 = 311 ∨ q + 1 = 312 := by omega
    rcases this with e | e | e | e <;> rw [e] at hq1
    · exact absurd (hq1.2.2.symm.trans (xw_ok309 hW).2.2) (by decide)
    · exact absurd (hq1.2.2.symm.trans (xw_ok310 hW).2.2) (by decide)
    · exact absurd (hq1.2.2.symm.trans (xw_ok311 hW).2.2) (by decide)
    · exact absurd (hq1.2.2.symm.trans (xw_ok312 hW).2.2) (by decide)
  refine ⟨⟨hR, hW, XS_same (M := M) rfl rfl hS, XRR_same (M := M) rfl rfl hX, hP, JQ_congr (A := A) (M := M) rfl (fun _ _ _ => rfl) rfl rfl (fun i p e => ⟨rfl, rfl, mA_wA_ne (fun e2 => ?_)⟩) hQ, JE_congr (A := A) (M := M) (fun _ _ _ _ => rfl) rfl (fun a h1 h2 => mA_wA_ne (hne a h1 h2)) hE, n, O, nw, s, o, hO, JWa_congr2 (A := A) (M := M) (fun _ _ _ _ => rfl) rfl rfl (fun _ _ _ => rfl) rfl rfl (fun _ _ _ _ _ _ _ => rfl) (fun i p hi e => mA_wA_ne (fun e2 => ?_)) hJ⟩, ⟨Nat.le_refl _, fun _ _ => ⟨rfl, rfl⟩, fun _ _ _ => rfl, fun _ _ _ _ => rfl, fun _ _ _ _ _ _ => rfl, fun a h1 h2 h3 h4 => mA_wA_ne (fun e => h4 (by subst e; exact hOq.2.2))⟩⟩
  · have : p = q := by omega
    subst this
    exact hdd i d _ e hq
  · have : p = q := by omega
    subst this
    have := r2.2.2 i d _ e hq
    omega
/-- an entry is written; what waits for it goes out -/
theorem sp_remember (fu : Nat) (hf : 2000 ≤ fu) {KN KS t T k n' n : Nat} {x y z : Int32} (h : JL0 KN KS t T A M) (hBA : By A) (hT2 : T < 2 ^ 30) (hk : k < 16) (hn' : n' ≤ 16) (hc : (k < n ∧ n' = n) ∨ (k = n ∧ n' = n + 1)) (h1 : ∀ k, k < n → (mF A 896 (406 + k)) = 1) (h2 : ∀ k, n ≤ k → k < 16 → (mF A 896 (406 + k)) = 0) (h3 : ∀ k, k < n → (mF A 897 (406 + k)) = mA M 309 k ∧ (mF A 898 (406 + k)) = mA M 310 k ∧ (mF A 899 (406 + k)) = mA M 311 k ∧ (mF A 900 (406 + k)) = mA M 312 k) :
    ∃ A' M' T', fX16_remember_L96 fu 323 x y z (some (406 + k)) A = some A' ∧ fX4_release fu 307 x (nI k) (setX M k n' x y z (mF M 641 304)) = some M' ∧ T ≤ T' ∧ T' ≤ T + 1 ∧ JL0 KN KS t T' A' M' ∧ FrA A A' ∧ FrM M M' := by
  obtain ⟨hJ1, fA, fM⟩ := JL0_set (x := x) (y := y) (z := z) (nw := (mF M 641 304)) h hk hn' hc h1 h2 h3
  obtain ⟨hR0, hW0, -, -, ⟨-, -, -, -, ⟨nw, p5, p6, p7⟩, -⟩, -⟩ := h
  have hlA : fX16_remember_L96 fu 323 x y z (some (406 + k)) A = b2 (fX16_packet fu 323 x (setE A k x y z (mF M 641 304))) fun v9 M8 => if v9 = none then some M8 else (pZ M8 15 960 v9 (0 : Int32)).bind fun M10 => fX16_remember_L151 fu fu 323 y z v9 (0 : Int32) M10 := by
    unfold fX16_remember_L96
    simp only [pZ_ok (rw_enO hR0 k hk) (Or.inr rfl), ob_some, pF_ok, gI_ok, rc_ok, ok_sF, rw_enO hR0 k hk, rw_ok323 hR0, mF_sF, reduceIte, Nat.reduceEqDiff, Nat.reduceAdd, Nat.reduceMul, Nat.reduceLT, Nat.reduceLeDiff, and_true, true_and, and_false, false_and, and_self, ne_eq, not_true_eq_false, not_false_eq_true, Option.some.injEq, reduceCtorEq]
    rw [p5, ← p6]
    rfl
  rw [hlA]
  have e310 : mA (setX M k n' x y z (mF M 641 304)) 310 k = y := by unfold setX; simp only [mA_sA, reduceIte, Nat.reduceEqDiff, Nat.reduceAdd, Nat.reduceMul, Nat.reduceLT, Nat.reduceLeDiff, and_true, true_and, and_false, false_and, and_self, ne_eq, not_true_eq_false, not_false_eq_true, Option.some.injEq, reduceCtorEq]
  have e311 : mA (setX M k n' x y z (mF M 641 304)) 311 k = z := by unfold setX; simp only [mA_sA, reduceIte, Nat.reduceEqDiff, Nat.reduceAdd, Nat.reduceMul, Nat.reduceLT, Nat.reduceLeDiff, and_true, true_and, and_false, false_and, and_self, ne_eq, not_true_eq_false, not_false_eq_true, Option.some.injEq, reduceCtorEq]
  have eHA : mF (setE A k x y z (mF M 641 304)) 1034 323 = nI nw := (setE_F (by omega)).trans p5
  have eHM : mF (setX M k n' x y z (mF M 641 304)) 641 304 = nI nw := (setX_F (by omega)).trans p6
  have hBA1 : By (setE A k x y z (mF M 641 304)) := hBA
  generalize setE A k x y z (mF M 641 304) = A1 at hJ1 fA eHA hBA1 ⊢
  generalize setX M k n' x y z (mF M 641 304) = M1 at hJ1 fM e310 e311 eHM ⊢
  have hJ2 := hJ1
  obtain ⟨hR, hW, hS, hX, hP, hQ, hE, n, O, nw', s, o, hO, hJ⟩ := hJ2
  have hX' := hX
  obtain ⟨nr, nww, nd, nc, b1, b2', b3, b4, r1, r2, r3, r4, hdd, -⟩ := hX'
  obtain ⟨-, -, pH, pL, -⟩ := hP
  unfold fX4_release
  rw [rc_ok (xw_ok307 hW), ob_some]
  rcases sp_waiter hR hW hJ r2 (show 9 ≤ fu by omega) x with ⟨c1, c2, c3⟩ | ⟨i, hi, c1, c2, c3⟩
  · rw [c2, c3, b2_some, b2_some, if_pos rfl, if_neg (by decide)]
    exact ⟨A1, M1, T, rfl, rfl, Nat.le_refl _, by omega, hJ1, fA, fM⟩
  · have hJ' := hJ
    obtain ⟨a1, a2, a3, a4, a5, a6, a7, a8, a9, a10, a11, a12⟩ := hJ'
    obtain ⟨q, hq, w1, ln, τ, as, w2, w3, w4, w5, w6, w7⟩ := a9 i hi
    have hOq := (rowN_at r2 hq).2
    obtain ⟨g1, g2, g3⟩ := hS.1 q hOq
    have hsi := a5 i hi
    have hdr := x_dropWaiter hW (fu := fu) a2 a1.1 hi (fun j hj => by
      obtain ⟨q', e1, -⟩ := a9 j hj
      exact ⟨q', e1, (rowN_at r2 e1).2⟩) (by omega)
    obtain ⟨y1, y2, y3⟩ := JL0_drop hi hO hJ hJ1
    have hJd := JWa_drop hi hJ
    have i31 : i < 2 ^ 31 := by omega
    rw [c2, c3, b2_some, b2_some, if_neg (by simp), if_pos (nI_0le i31), pZ_ok (rw_pkO hR _ hsi) (Or.inl rfl), ob_some, gR_ok (xw_ok307 hW), ob_some, xw_g270_307 hW, gB_ok (xw_ok313 hW) (by rw [xw_ln313 hW]; omega) i31, ob_some, hq, rc_ok (xw_ok307 hW), ob_some, hdr, ob_some, if_neg (by simp)]
    have hl2 : mF (sF A1 960 (422 + 2 * s i) 0) 962 (422 + 2 * s i) = nI ln := by rw [mF_sF, if_neg (by omega)]; exact w2
    rw [m_rem_copy (A := sF A1 960 (422 + 2 * s i) 0) hR hBA1 fu hsi w5 hl2 y z (by omega)]
    -- the class
    have hF2 : ∀ f a, ¬ (f = 260 ∧ a = 307) → mF (sF (wB M1 313 (rotg (mB M1 313) i n)) 260 307 (nI (n - 1))) f a = mF M1 f a := fun f a h1 => by rw [mF_sF, if_neg h1]; rfl
    have hA2 : mA (sF (wB M1 313 (rotg (mB M1 313) i n)) 260 307 (nI (n - 1))) = mA M1 := rfl
    have hG2 : mG (sF (wB M1 313 (rotg (mB M1 313) i n)) 260 307 (nI (n - 1))) = mG M1 := rfl
    have hS2 : mS (sF (wB M1 313 (rotg (mB M1 313) i n)) 260 307 (nI (n - 1))) = mS M1 := rfl
    have hB2 : mB (sF (wB M1 313 (rotg (mB M1 313) i n)) 260 307 (nI (n - 1))) 313 (n - 1) = some q := by
      show mB (wB M1 313 (rotg (mB M1 313) i n)) 313 (n - 1) = some q
      rw [mB_wB_self]
      unfold rotg
      rw [if_neg (by omega), if_pos (by omega)]
      exact hq
    have hB6 : mB (sF (wB M1 313 (rotg (mB M1 313) i n)) 260 307 (nI (n - 1))) 306 = mB M1 306 := mB_wB_ne (by decide)
    have hO2 : ∀ t a, okA M1 t a → okA (sF (wB M1 313 (rotg (mB M1 313) i n)) 260 307 (nI (n - 1))) t a := fun t a h => h
    generalize hM2 : sF (wB M1 313 (rotg (mB M1 313) i n)) 260 307 (nI (n - 1)) = M2 at y1 y3 hJd hF2 hA2 hG2 hS2 hB2 hB6 hO2 ⊢
    have y1' := y1
    obtain ⟨hR2, hW2, hS2', hX2, hP2, hQ2, hE2, -⟩ := y1'
    rw [gR_ok (hO2 _ _ hOq), ob_some, hG2, g1, gR_ok (xw_ok307 hW2), ob_some, xw_g267_307 hW2, gA_ok (xw_ok310 hW2) (by rw [xw_ln310 hW2]; exact hk) (by omega), ob_some, hA2, e310, gR_ok (xw_ok307 hW2), ob_some, xw_g268_307 hW2, gA_ok (xw_ok311 hW2) (by rw [xw_ln311 hW2]; exact hk) (by omega), ob_some, hA2, e311, rc_ok (xw_ok307 hW2), ob_some, x_fillLink hW2 (hO2 _ _ g2) (by rw [hS2, g3]; decide) (by rw [hS2, g3]; decide), ob_some]
    obtain ⟨j1, j2⟩ := JL0_row (hd5 (mA M2 (q + 1)) y z (mF M2 258 307) (mF M2 259 307) 2048) (n := n - 1) (d := n - 1) (Nat.le_refl _) hB2 hO hJd y1
    have hW3 : XW (wA M2 (q + 1) (hd5 (mA M2 (q + 1)) y z (mF M2 258 307) (mF M2 259 307) 2048)) := hW2
    have eln : mF (wA M2 (q + 1) (hd5 (mA M2 (q + 1)) y z (mF M2 258 307) (mF M2 259 307) 2048)) 385 q = nI (14 + ln) := (hF2 _ _ (by omega)).trans w3
    rw [gR_ok (xw_ok307 hW3), ob_some, xw_g261_307 hW3, gR_ok (by rw [ok_wA]; exact hO2 _ _ hOq), ob_some, mG_wA, hG2, g1, gI_ok (by rw [ok_wA]; exact hO2 _ _ hOq), ob_some, eln, rc_ok (xw_ok304 hW3), ob_some]
    have j1' := JL0_fr (fun j => if 14 ≤ j ∧ j < 14 + ln then mA (sF A1 960 (422 + 2 * s i) 0) (423 + 2 * s i) (j - 14) else mA (sF A1 960 (422 + 2 * s i) 0) 331 j) j1
    have j1s := j1'
    obtain ⟨hR4, hW4, hS4, hX4, hP4, hQ4, -, -⟩ := j1s
    have hBf : By (wA (sF A1 960 (422 + 2 * s i) 0) 331 (fun j => if 14 ≤ j ∧ j < 14 + ln then mA (sF A1 960 (422 + 2 * s i) 0) (423 + 2 * s i) (j - 14) else mA (sF A1 960 (422 + 2 * s i) 0) 331 j)) := by
      refine By_wA (By_sF hBA1) (fun _ j => ?_)
      split
      · exact hBA1 _ _ (rw_pkY hR _ hsi).2.2
      · exact hBA1 _ _ (rw_ok331 hR).2.2
    obtain ⟨A', M', z1, z2, z3, z4, z5, z6, z7, z8⟩ := sp_send fu hf (nw := nw) (c := ln) hR4 hBf hW4 hS4 hX4 hQ4 hT2 (by rw [mF_wA, mF_sF, if_neg (by omega)]; exact eHA) ((hF2 _ _ (by omega)).trans eHM) w4 w5 y z 2048 (src := q + 1) (by rw [ok_wA]; exact hO2 _ _ g2) (by rw [mS_wA, hS2, g3]; decide) (by rw [mS_wA, hS2, g3]; omega) (fun j p e e2 => by
      have e3 : mB M1 306 j = some p := by rw [← hB6]; exact e
      have : p = q := by omega
      subst this
      exact hdd j i _ e3 hq) (by
      intro j hj
      rw [mA_wA_self, mA_wA_self, mF_wA, mF_sF, mF_sF, if_neg (by omega), if_neg (by omega), pH, pL, hF2 _ _ (by omega), hF2 _ _ (by omega)]
      refine hd5_c (fun h14 => ?_)
      rw [hA2, if_pos ⟨h14, by omega⟩]
      have := w6 (j - 14) (by omega)
      rw [show 14 + (j - 14) = j by omega] at this
      exact this.symm)
    obtain ⟨v1, v2, v3⟩ := JL0_sent j1' z3 z4 z5 z6 z7 z8
    refine ⟨A', M', T + 1, by rw [z1, ob_some], by rw [z2, ob_some], by omega, Nat.le_refl _, v1, ((fA.tr y2).tr (FrA_wA _)).tr v2, ((fM.tr y3).tr j2).tr v3⟩
end Arp2
