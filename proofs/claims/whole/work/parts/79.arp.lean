/-! ===== part 79: ARP comes in ===== -/
def oldI (g : Nat → Int32) : Nat → Nat
  | 0 => 0
  | j + 1 => if g (oldI g j) ≤ g (j + 1) then oldI g j else j + 1
theorem oldI_le (g : Nat → Int32) : ∀ j, oldI g j ≤ j
  | 0 => Nat.le_refl _
  | j + 1 => by
    unfold oldI
    have := oldI_le g j
    split <;> omega
theorem oldI_c {g g' : Nat → Int32} : ∀ j, (∀ i, i ≤ j → g i = g' i) → oldI g j = oldI g' j
  | 0, _ => rfl
  | j + 1, h => by
    have e := oldI_c j (fun i hi => h i (by omega))
    unfold oldI
    rw [e, h _ (Nat.le_refl _), h _ (by have := oldI_le g' j; omega)]
theorem nIinj {a b : Nat} (ha : a < 2 ^ 31) (hb : b < 2 ^ 31) (h : nI a = nI b) : a = b := (nI_eq ha hb).mp h
theorem sF_id {M : Mm} {f a : Nat} {v : Int32} (h : mF M f a = v) : sF M f a v = M := by
  unfold sF
  have : (fun g b => if g = f ∧ b = a then v else M.1 g b) = M.1 := by
    funext g b
    by_cases c : g = f ∧ b = a
    · rw [if_pos c, c.1, c.2, ← h]; rfl
    · rw [if_neg c]
  rw [this]
section Arp
variable {A M : Mm}
theorem x_newEntry_full (hW : XW M) (hn : (mF M 265 307) = nI 16) {fu : Nat} (hf : 17 ≤ fu) : fX4_newEntry fu 307 M = some (nI (oldI (mA M 312) 15), M) := by
  unfold fX4_newEntry
  rw [gI_ok (xw_ok307 hW), ob_some, hn, if_pos (by decide)]
  have step : ∀ m j, j < 15 → fX4_newEntry_L25 fu (m + 1) 307 (nI (oldI (mA M 312) j)) (nI (j + 1)) M = fX4_newEntry_L25 fu m 307 (nI (oldI (mA M 312) (j + 1))) (nI (j + 1 + 1)) M := by
    intro m j hj
    have h1 := oldI_le (mA M 312) j
    rw [fX4_newEntry_L25, if_neg (ge16 (by omega)), gR_ok (xw_ok307 hW), ob_some, xw_g269_307 hW, gA_ok (xw_ok312 hW) (by rw [xw_ln312 hW]; omega) (by omega), ob_some, ob_some, gA_ok (xw_ok312 hW) (by rw [xw_ln312 hW]; omega) (by omega), ob_some]
    unfold fX4_newEntry_L48
    rw [nI_1]
    by_cases c : mA M 312 (oldI (mA M 312) j) ≤ mA M 312 (j + 1)
    · have e : oldI (mA M 312) (j + 1) = oldI (mA M 312) j := if_pos c
      rw [if_pos c, e]
    · have e : oldI (mA M 312) (j + 1) = j + 1 := if_neg c
      rw [if_neg c, e]
  refine Eq.trans (lp0 (fun m j => fX4_newEntry_L25 fu m 307 (nI (oldI (mA M 312) j)) (nI (j + 1)) M) step (fu := fu) (by omega)) ?_
  obtain ⟨m, hm⟩ : ∃ m, fu - 15 = m + 1 := ⟨fu - 15 - 1, by omega⟩
  show fX4_newEntry_L25 fu (fu - 15) 307 (nI (oldI (mA M 312) 15)) (nI 16) M = _
  rw [hm, fX4_newEntry_L25, if_pos (by decide)]
theorem x_newEntry_new (hW : XW M) {n : Nat} (hn : (mF M 265 307) = nI n) (h16 : n < 16) (fu : Nat) : fX4_newEntry fu 307 M = some (nI n, sF M 265 307 (nI (n + 1))) := by
  unfold fX4_newEntry
  rw [gI_ok (xw_ok307 hW), ob_some, hn, if_neg (ge16 h16), ob_some, nI_1, pF_ok (xw_ok307 hW), ob_some]
theorem m_enB (h : RW A) {j : Nat} (hj : j < 16) : gB A 124 (some 335) (nI j) = some (some (406 + j)) := by
  rw [gB_ok (rw_ok335 h) (by rw [rw_ln335 h]; exact hj) (by omega), rw_enB h j hj]
theorem m_rem_used (h : RW A) (fu m : Nat) {j e : Nat} (hj : j < 16) (he : e < 16) (hu : (mF A 896 (406 + e)) ≠ 0) (huj : (mF A 896 (406 + j)) ≠ 0) (x y z : Int32) : fX16_remember_L23 fu (m + 1) 323 x y z (some (406 + e)) (nI j) A = fX16_remember_L23 fu m 323 x y z (some (406 + (if (mF A 900 (406 + e)) ≤ (mF A 900 (406 + j)) then e else j))) (nI (j + 1)) A := by
  rw [fX16_remember_L23, if_neg (ge16 hj)]
  unfold fX16_remember_L48 fX16_remember_L81 fX16_remember_L90
  simp only [gR_ok (rw_ok323 h), rw_g1050_323 h, m_enB h hj, gI_ok (rw_enO h j hj), gI_ok (rw_enO h e he), ob_some, if_neg huj, if_neg hu, if_true, nI_1]
  by_cases c : (mF A 900 (406 + e)) ≤ (mF A 900 (406 + j))
  · rw [if_pos c, if_pos c]
  · rw [if_neg c, if_neg c]
theorem m_rem_keep (h : RW A) (fu m : Nat) {j e : Nat} (hj : j < 16) (he : e < 16) (hu : (mF A 896 (406 + e)) = 0) (x y z : Int32) : fX16_remember_L23 fu (m + 1) 323 x y z (some (406 + e)) (nI j) A = fX16_remember_L23 fu m 323 x y z (some (406 + e)) (nI (j + 1)) A := by
  rw [fX16_remember_L23, if_neg (ge16 hj)]
  unfold fX16_remember_L48 fX16_remember_L90
  simp only [gR_ok (rw_ok323 h), rw_g1050_323 h, m_enB h hj, gI_ok (rw_enO h j hj), gI_ok (rw_enO h e he), ob_some, if_pos hu, nI_1, ite_self]
theorem m_rem_free (h : RW A) (fu m : Nat) {j e : Nat} (hj : j < 16) (he : e < 16) (hu : (mF A 896 (406 + e)) ≠ 0) (huj : (mF A 896 (406 + j)) = 0) (x y z : Int32) : fX16_remember_L23 fu (m + 1) 323 x y z (some (406 + e)) (nI j) A = fX16_remember_L23 fu m 323 x y z (some (406 + j)) (nI (j + 1)) A := by
  rw [fX16_remember_L23, if_neg (ge16 hj)]
  unfold fX16_remember_L48 fX16_remember_L81 fX16_remember_L90
  simp only [gR_ok (rw_ok323 h), rw_g1050_323 h, m_enB h hj, gI_ok (rw_enO h j hj), gI_ok (rw_enO h e he), ob_some, if_pos huj, if_neg hu, if_neg (show ¬ (1 : Int32) = 0 by decide), nI_1]
/-- where a new entry goes, in both -/
theorem sp_newEntry (hR : RW A) (hW : XW M) {n : Nat} (n16 : n ≤ 16) (he : (mF M 265 307) = nI n) (h1 : ∀ k, k < n → (mF A 896 (406 + k)) = 1) (h2 : ∀ k, n ≤ k → k < 16 → (mF A 896 (406 + k)) = 0) (h3 : ∀ k, k < n → (mF A 900 (406 + k)) = mA M 312 k) {fu : Nat} (hf : 20 ≤ fu) (x y z : Int32) :
    ∃ k n', k < 16 ∧ n' ≤ 16 ∧ ((k < n ∧ n' = n) ∨ (k = n ∧ n' = n + 1)) ∧ fX16_remember_L23 fu fu 323 x y z (some 406) 1 A = fX16_remember_L96 fu 323 x y z (some (406 + k)) A ∧ fX4_newEntry fu 307 M = some (nI k, sF M 265 307 (nI n')) := by
  have used : ∀ m j, j + 1 < n → fX16_remember_L23 fu (m + 1) 323 x y z (some (406 + oldI (mA M 312) j)) (nI (j + 1)) A = fX16_remember_L23 fu m 323 x y z (some (406 + oldI (mA M 312) (j + 1))) (nI (j + 1 + 1)) A := by
    intro m j hj
    have e := oldI_le (mA M 312) j
    rw [m_rem_used hR fu m (by omega) (by omega) (by rw [h1 _ (by omega)]; decide) (by rw [h1 _ (by omega)]; decide), h3 _ (by omega), h3 _ (by omega)]
    rfl
  have keep : ∀ k, k < 16 → (mF A 896 (406 + k)) = 0 → ∀ i, i ≤ 16 → ∀ m, fX16_remember_L23 fu (m + (16 - i)) 323 x y z (some (406 + k)) (nI i) A = fX16_remember_L23 fu m 323 x y z (some (406 + k)) (nI 16) A := fun k hk hu i hi m => lp (fun m j => fX16_remember_L23 fu m 323 x y z (some (406 + k)) (nI j) A) hi (fun m j _ hj => m_rem_keep hR fu m hj hk hu x y z) m
  have fin : ∀ k m, fX16_remember_L23 fu (m + 1) 323 x y z (some (406 + k)) (nI 16) A = fX16_remember_L96 fu 323 x y z (some (406 + k)) A := by
    intro k m
    rw [fX16_remember_L23, if_pos (by decide)]
  by_cases c : n = 16
  · subst c
    have e := oldI_le (mA M 312) 15
    refine ⟨oldI (mA M 312) 15, 16, by omega, Nat.le_refl _, Or.inl ⟨by omega, rfl⟩, ?_, ?_⟩
    · refine Eq.trans (lp0 (fun m j => fX16_remember_L23 fu m 323 x y z (some (406 + oldI (mA M 312) j)) (nI (j + 1)) A) (k := 15) (fun m j hj => used m j (by omega)) (fu := fu) (by omega)) ?_
      obtain ⟨m, hm⟩ : ∃ m, fu - 15 = m + 1 := ⟨fu - 15 - 1, by omega⟩
      show fX16_remember_L23 fu (fu - 15) 323 x y z (some (406 + oldI (mA M 312) 15)) (nI 16) A = _
      rw [hm]
      exact fin _ m
    · rw [x_newEntry_full hW he (by omega), sF_id he]
  · refine ⟨n, n + 1, by omega, by omega, Or.inr ⟨rfl, rfl⟩, ?_, x_newEntry_new hW he (by omega) fu⟩
    by_cases c0 : n = 0
    · subst c0
      have := keep 0 (by omega) (h2 0 (by omega) (by omega)) 1 (by omega) (fu - 15)
      rw [show fu - 15 + (16 - 1) = fu by omega] at this
      refine Eq.trans this ?_
      obtain ⟨m, hm⟩ : ∃ m, fu - 15 = m + 1 := ⟨fu - 15 - 1, by omega⟩
      rw [hm]
      exact fin _ m
    · refine Eq.trans (lp0 (fun m j => fX16_remember_L23 fu m 323 x y z (some (406 + oldI (mA M 312) j)) (nI (j + 1)) A) (k := n - 1) (fun m j hj => used m j (by omega)) (fu := fu) (by omega)) ?_
      show fX16_remember_L23 fu (fu - (n - 1)) 323 x y z (some (406 + oldI (mA M 312) (n - 1))) (nI (n - 1 + 1)) A = _
      have e := oldI_le (mA M 312) (n - 1)
      rw [show n - 1 + 1 = n by omega, show fu - (n - 1) = (fu - 16 + (16 - (n + 1)) + 1) + 1 by omega]
      rw [m_rem_free hR fu _ (by omega) (by omega) (by rw [h1 _ (by omega)]; decide) (h2 n (Nat.le_refl _) (by omega)), show fu - 16 + (16 - (n + 1)) + 1 = (fu - 16 + 1) + (16 - (n + 1)) by omega, keep n (by omega) (h2 n (Nat.le_refl _) (by omega)) (n + 1) (by omega)]
      exact fin n (fu - 16)
/-- the entry written, in both -/
def setE (A : Mm) (k : Nat) (x y z nw : Int32) : Mm := sF (sF (sF (sF (sF A 896 (406 + k) 1) 897 (406 + k) x) 898 (406 + k) y) 899 (406 + k) z) 900 (406 + k) nw
def setX (M : Mm) (k n' : Nat) (x y z nw : Int32) : Mm := sA (sA (sA (sA (sF M 265 307 (nI n')) 309 k x) 310 k y) 311 k z) 312 k nw
theorem setE_F {k : Nat} {x y z nw : Int32} {f a : Nat} (h : ¬ (896 ≤ f ∧ f ≤ 900 ∧ a = 406 + k)) : mF (setE A k x y z nw) f a = mF A f a := by
  unfold setE
  simp only [mF_sF]
  rw [if_neg (by omega), if_neg (by omega), if_neg (by omega), if_neg (by omega), if_neg (by omega)]
theorem setX_F {k n' : Nat} {x y z nw : Int32} {f a : Nat} (h : ¬ (f = 265 ∧ a = 307)) : mF (setX M k n' x y z nw) f a = mF M f a := by
  unfold setX
  simp only [mF_sA, mF_sF]
  rw [if_neg h]
theorem setX_A {k n' : Nat} {x y z nw : Int32} {a : Nat} (h : a < 309 ∨ 312 < a) : mA (setX M k n' x y z nw) a = mA M a := by
  funext j
  unfold setX
  simp only [mA_sA, mA_sF]
  rw [if_neg (by omega), if_neg (by omega), if_neg (by omega), if_neg (by omega)]
theorem JE_set {k n' n : Nat} {x y z nw : Int32} (hk : k < 16) (hn' : n' ≤ 16) (hc : (k < n ∧ n' = n) ∨ (k = n ∧ n' = n + 1)) (h1 : ∀ k, k < n → (mF A 896 (406 + k)) = 1) (h2 : ∀ k, n ≤ k → k < 16 → (mF A 896 (406 + k)) = 0) (h3 : ∀ k, k < n → (mF A 897 (406 + k)) = mA M 309 k ∧ (mF A 898 (406 + k)) = mA M 310 k ∧ (mF A 899 (406 + k)) = mA M 311 k ∧ (mF A 900 (406 + k)) = mA M 312 k) : JE (setE A k x y z nw) (setX M k n' x y z nw) := by
  refine ⟨n', hn', ?_, fun j hj => ?_, fun j h4 h5 => ?_, fun j hj => ?_⟩
  · unfold setX
    simp only [mF_sA, mF_sF, reduceIte, Nat.reduceEqDiff, Nat.reduceAdd, Nat.reduceMul, Nat.reduceLT, Nat.reduceLeDiff, and_true, true_and, and_false, false_and, and_self, ne_eq, not_true_eq_false, not_false_eq_true, Option.some.injEq, reduceCtorEq]
  · by_cases c : j = k
    · subst c
      unfold setE
      simp only [mF_sF, reduceIte, Nat.reduceEqDiff, Nat.reduceAdd, Nat.reduceMul, Nat.reduceLT, Nat.reduceLeDiff, and_true, true_and, and_false, false_and, and_self, ne_eq, not_true_eq_false, not_false_eq_true, Option.some.injEq, reduceCtorEq]
    · rw [setE_F (by omega)]
      exact h1 j (by omega)
  · rw [setE_F (by omega)]
    exact h2 j (by omega) h5
  · by_cases c : j = k
    · subst c
      unfold setE setX
      simp only [mF_sF, mA_sA, mA_sF, reduceIte, Nat.reduceEqDiff, Nat.reduceAdd, Nat.reduceMul, Nat.reduceLT, Nat.reduceLeDiff, and_true, true_and, and_false, false_and, and_self, ne_eq, not_true_eq_false, not_false_eq_true, Option.some.injEq, reduceCtorEq]
    · rw [setE_F (by omega), setE_F (by omega), setE_F (by omega), setE_F (by omega)]
      obtain ⟨g1, g2, g3, g4⟩ := h3 j (by omega)
      unfold setX
      simp only [mA_sA, mA_sF, c, reduceIte, Nat.reduceEqDiff, Nat.reduceAdd, Nat.reduceMul, Nat.reduceLT, Nat.reduceLeDiff, and_true, true_and, and_false, false_and, and_self, ne_eq, not_true_eq_false, not_false_eq_true, Option.some.injEq, reduceCtorEq]
      exact ⟨g1, g2, g3, g4⟩
theorem JL0_set {KN KS t T k n' n : Nat} {x y z nw : Int32} (h : JL0 KN KS t T A M) (hk : k < 16) (hn' : n' ≤ 16) (hc : (k < n ∧ n' = n) ∨ (k = n ∧ n' = n + 1)) (h1 : ∀ k, k < n → (mF A 896 (406 + k)) = 1) (h2 : ∀ k, n ≤ k → k < 16 → (mF A 896 (406 + k)) = 0) (h3 : ∀ k, k < n → (mF A 897 (406 + k)) = mA M 309 k ∧ (mF A 898 (406 + k)) = mA M 310 k ∧ (mF A 899 (406 + k)) = mA M 311 k ∧ (mF A 900 (406 + k)) = mA M 312 k) :
    JL0 KN KS t T (setE A k x y z nw) (setX M k n' x y z nw) ∧ FrA A (setE A k x y z nw) ∧ FrM M (setX M k n' x y z nw) := by
  obtain ⟨hR, hW, hS, hX, hP, hQ, hE, n0, O, nw', s, o, hO, hJ⟩ := h
  have hX' := hX
  obtain ⟨nr, nww, nd, nc, b1, b2, b3, b4, r1, r2, r3, r4, hdd, k1, k2, k3, k4, k5⟩ := hX'
  have n100 : ∀ a, okA M 100 a → a < 309 ∨ 312 < a := fun a ha => by
    have := ha.2.2
    by_cases c : a < 309 ∨ 312 < a
    · exact c
    · have : a = 309 ∨ a = 310 ∨ a = 311 ∨ a = 312 := by omega
      rcases this with rfl | rfl | rfl | rfl
      · exact absurd (this.symm.trans (xw_ok309 hW).2.2) (by decide)
      · exact absurd (this.symm.trans (xw_ok310 hW).2.2) (by decide)
      · exact absurd (this.symm.trans (xw_ok311 hW).2.2) (by decide)
      · exact absurd (this.symm.trans (xw_ok312 hW).2.2) (by decide)
  refine ⟨⟨hR, hW, XS_same (M := M) rfl rfl hS, XRR_same (M := M) rfl rfl hX, JP_congr (A := A) (M := M) (fun f h1 h2 => ⟨setE_F (by omega), setE_F (by omega)⟩) (setE_F (by omega)) (setE_F (by omega)) (fun f h1 h2 h3 h4 => setX_F (by omega)) (setX_F (by omega)) (setX_F (by omega)) hP, JQ_congr (A := A) (M := M) (setE_F (by omega)) (fun _ _ _ => rfl) (setX_F (by omega)) rfl (fun i p e => ⟨setX_F (by omega), setX_F (by omega), setX_A (n100 _ (hS.1 p (rowN_at r1 e).2).2.1)⟩) hQ, JE_set hk hn' hc h1 h2 h3, n0, O, nw', s, o, hO, JWa_congr (A := A) (M := M) (fun f a h1 h2 => setE_F (by omega)) (setE_F (by omega)) (setE_F (by omega)) (fun _ _ _ => rfl) (setX_F (by omega)) rfl (fun i q f e h1 h2 => setX_F (by omega)) (fun i q e => setX_A (n100 _ (hS.1 q (rowN_at r2 e).2).2.1)) hJ⟩, ⟨rfl, rfl, rfl, fun f a h => setE_F (by omega), fun f a h1 _ _ _ => setE_F (by omega), fun _ _ _ => rfl, by rw [setE_F (f := 1049) (by omega)]; exact Int32.le_refl _⟩, ⟨Nat.le_refl _, fun _ _ => ⟨rfl, rfl⟩, fun _ _ _ => rfl, fun _ _ _ _ => rfl, fun f a h1 h2 h3 h4 => setX_F (by omega), fun a h1 h2 h3 h4 => setX_A h3⟩⟩
/-- the reference copies a waiting packet into its frame -/
theorem m_rem_copy (h : RW A) (hB : By A) (fu : Nat) {k ln : Nat} (hk : k < 8) (hln : ln ≤ 1500) (hl : (mF A 962 (422 + 2 * k)) = nI ln) (y z : Int32) (hf : ln + 1 ≤ fu) :
    fX16_remember_L151 fu fu 323 y z (some (422 + 2 * k)) 0 A = (fX16_send fu 323 y z (2048 : Int32) (nI ln) (wA A 331 (fun j => if 14 ≤ j ∧ j < 14 + ln then mA A (423 + 2 * k) (j - 14) else mA A 331 j))).bind (fun M4 => some M4) := by
  have hRW : ∀ g, RW (wA A 331 g) := fun g => h
  have step : ∀ m j, j < ln → fX16_remember_L151 fu (m + 1) 323 y z (some (422 + 2 * k)) (nI j) (wA A 331 (fun i => if 14 ≤ i ∧ i < 14 + j then mA A (423 + 2 * k) (i - 14) else mA A 331 i)) = fX16_remember_L151 fu m 323 y z (some (422 + 2 * k)) (nI (j + 1)) (wA A 331 (fun i => if 14 ≤ i ∧ i < 14 + (j + 1) then mA A (423 + 2 * k) (i - 14) else mA A 331 i)) := by
    intro m j hj
    have e14 : (14 : Int32) + nI j = nI (14 + j) := nI_add 14 j
    have hne : 423 + 2 * k ≠ 331 := by omega
    rw [fX16_remember_L151, gI_ok (rw_pkO (hRW _) k hk), ob_some, mF_wA, hl, if_neg (nI_ge hj (by omega)), gR_ok (rw_ok323 (hRW _)), ob_some, rw_g1043_323 (hRW _), gR_ok (rw_pkO (hRW _) k hk), ob_some, rw_pkYg (hRW _) k hk, gA_ok (rw_pkY (hRW _) k hk) (by rw [rw_pkYl (hRW _) k hk]; omega) (by omega), ob_some, mA_wA_ne hne, toB_byt _ (hB _ _ (rw_pkY h k hk).2.2), e14, pA_ok (rw_ok331 (hRW _)) (by rw [rw_ln331 (hRW _)]; omega) (by omega), ob_some, nI_1, wA_wA]
    congr 2
    funext i
    rw [mA_wA_self]
    by_cases c : i = 14 + j
    · rw [if_pos c, if_pos (by omega), c, show 14 + j - 14 = j by omega]
    · rw [if_neg c]
      by_cases c2 : 14 ≤ i ∧ i < 14 + j
      · rw [if_pos c2, if_pos (by omega)]
      · rw [if_neg c2, if_neg (by omega)]
  have e0 : wA A 331 (fun i => if 14 ≤ i ∧ i < 14 + 0 then mA A (423 + 2 * k) (i - 14) else mA A 331 i) = A := by
    have : (fun i => if 14 ≤ i ∧ i < 14 + 0 then mA A (423 + 2 * k) (i - 14) else mA A 331 i) = mA A 331 := by
      funext i
      rw [if_neg (by omega)]
    rw [this]
    exact wA_mA A 331
  have lpe := lp0 (fun m j => fX16_remember_L151 fu m 323 y z (some (422 + 2 * k)) (nI j) (wA A 331 (fun i => if 14 ≤ i ∧ i < 14 + j then mA A (423 + 2 * k) (i - 14) else mA A 331 i))) step (fu := fu) (by omega)
  simp only [e0] at lpe
  refine Eq.trans lpe ?_
  obtain ⟨m, hm⟩ : ∃ m, fu - ln = m + 1 := ⟨fu - ln - 1, by omega⟩
  rw [hm, fX16_remember_L151, gI_ok (rw_pkO (hRW _) k hk), ob_some, mF_wA, hl, if_pos (Int32.le_refl _), ob_some, rc_ok (rw_ok323 (hRW _)), ob_some]
end Arp
