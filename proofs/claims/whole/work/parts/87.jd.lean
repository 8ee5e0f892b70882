/-! ===== part 87: datagrams in the making, in both ===== -/
def D1 (A M : Mm) (nw k d τ : Nat) : Prop := (mF A 833 (438 + 3 * k)) = (mF M 129 d) ∧ (mF A 834 (438 + 3 * k)) = (mF M 130 d) ∧ (mF A 835 (438 + 3 * k)) = (mF M 131 d) ∧ (mF A 836 (438 + 3 * k)) = (mF M 133 d) ∧ (mF A 837 (438 + 3 * k)) = nI τ ∧ (mF M 132 d) = nI τ ∧ τ ≤ nw ∧ nw ≤ τ + 15000 ∧ (∀ j, j < 4096 → mA A (440 + 3 * k) j = if bitOf (mA M (d + 2)) j then 1 else 0) ∧ (∀ j, j < 4096 → bitOf (mA M (d + 2)) j = true → mA A (439 + 3 * k) j = mA M (d + 1) j) ∧ (mF M 134 d) = nI (cnt (bitOf (mA M (d + 2))) 4096) ∧
  ∃ r, r ≤ 4096 ∧ (mF M 135 d) = nI r ∧ (((mF M 133 d) = -1 ∧ (∀ j, r ≤ j → j < 4096 → bitOf (mA M (d + 2)) j = false) ∧ (r = 0 ∨ bitOf (mA M (d + 2)) (r - 1) = true)) ∨ (∃ e, e ≤ 4096 ∧ (mF M 133 d) = nI e ∧ ∀ j, e ≤ j → j < 4096 → bitOf (mA M (d + 2)) j = false))
def JDa (n nw : Nat) (s τ : Nat → Nat) (A M : Mm) : Prop := (n ≤ 4 ∧ nw ≤ 2000000000) ∧ (mF M 208 314) = nI n ∧ (mF A 1034 323) = nI nw ∧ (∀ i, i < n → s i < 4) ∧ (∀ i j, i < n → j < n → s i = s j → i = j) ∧ (∀ i, i < n → (mF A 832 (438 + 3 * (s i))) = 1) ∧ (∀ k, k < 4 → (∀ i, i < n → s i ≠ k) → (mF A 832 (438 + 3 * k)) = 0) ∧ (∀ i, i < n → ∃ d, mB M 316 i = some d ∧ D1 A M nw (s i) d (τ i)) ∧ (∀ i j, i < j → j < n → (mF A 838 (438 + 3 * (s i))) < (mF A 838 (438 + 3 * (s j))) ∧ τ i ≤ τ j) ∧ (∀ i, i < n → (mF A 838 (438 + 3 * (s i))) ≤ (mF A 1049 323)) ∧ (∀ i j, i < n → j < n → (mF A 833 (438 + 3 * (s i))) = (mF A 833 (438 + 3 * (s j))) → (mF A 834 (438 + 3 * (s i))) = (mF A 834 (438 + 3 * (s j))) → (mF A 835 (438 + 3 * (s i))) = (mF A 835 (438 + 3 * (s j))) → i = j)
def JD (A M : Mm) : Prop := ∃ n nw s τ, JDa n nw s τ A M
/-- what is counted -/
def JN (A M : Mm) : Prop := ∀ i, i < 8 → mA A 330 i = mA M 305 i
section Jd
variable {A A' M M' : Mm}
theorem D1_congr {nw k d τ : Nat} (hA : ∀ f, 833 ≤ f → f ≤ 837 → mF A' f (438 + 3 * k) = mF A f (438 + 3 * k)) (h1 : mA A' (439 + 3 * k) = mA A (439 + 3 * k)) (h2 : mA A' (440 + 3 * k) = mA A (440 + 3 * k)) (hF : ∀ f, 129 ≤ f → f ≤ 135 → mF M' f d = mF M f d) (h3 : mA M' (d + 1) = mA M (d + 1)) (h4 : mA M' (d + 2) = mA M (d + 2)) (h : D1 A M nw k d τ) : D1 A' M' nw k d τ := by
  unfold D1 at *
  rw [hA 833 (by decide) (by decide), hA 834 (by decide) (by decide), hA 835 (by decide) (by decide), hA 836 (by decide) (by decide), hA 837 (by decide) (by decide), h1, h2, h3, h4, hF 129 (by decide) (by decide), hF 130 (by decide) (by decide), hF 131 (by decide) (by decide), hF 132 (by decide) (by decide), hF 133 (by decide) (by decide), hF 134 (by decide) (by decide), hF 135 (by decide) (by decide)]
  exact h
theorem JDa_congr {n nw : Nat} {s τ : Nat → Nat} (hA : ∀ f a, 832 ≤ f → f ≤ 838 → mF A' f a = mF A f a) (hN : (mF A' 1034 323) = (mF A 1034 323)) (hord : (mF A 1049 323) ≤ (mF A' 1049 323)) (hAA : ∀ a, 438 ≤ a → a < 450 → mA A' a = mA A a) (hw : (mF M' 208 314) = (mF M 208 314)) (hB : mB M' 316 = mB M 316) (hF : ∀ i d, i < n → mB M 316 i = some d → (∀ f, 129 ≤ f → f ≤ 135 → mF M' f d = mF M f d) ∧ mA M' (d + 1) = mA M (d + 1) ∧ mA M' (d + 2) = mA M (d + 2)) (h : JDa n nw s τ A M) : JDa n nw s τ A' M' := by
  obtain ⟨a1, a2, a3, a4, a5, a6, a7, a8, a9, a10, a11⟩ := h
  refine ⟨a1, hw.trans a2, hN.trans a3, a4, a5, fun i hi => ?_, fun k hk h => ?_, fun i hi => ?_, fun i j h1 h2 => ?_, fun i hi => ?_, fun i j hi hj => ?_⟩
  · rw [hA _ _ (by decide) (by decide)]; exact a6 i hi
  · rw [hA _ _ (by decide) (by decide)]; exact a7 k hk h
  · obtain ⟨d, q1, q2⟩ := a8 i hi
    have := a4 i hi
    obtain ⟨f1, f2, f3⟩ := hF i d hi q1
    exact ⟨d, by rw [hB]; exact q1, D1_congr (A := A) (M := M) (fun f h1 h2 => hA f _ (by omega) (by omega)) (hAA _ (by omega) (by omega)) (hAA _ (by omega) (by omega)) f1 f2 f3 q2⟩
  · rw [hA _ _ (by decide) (by decide), hA _ _ (by decide) (by decide)]; exact a9 i j h1 h2
  · rw [hA _ _ (by decide) (by decide)]; exact Int32.le_trans (a10 i hi) hord
  · rw [hA _ _ (by decide) (by decide), hA _ _ (by decide) (by decide), hA _ _ (by decide) (by decide), hA _ _ (by decide) (by decide), hA _ _ (by decide) (by decide), hA _ _ (by decide) (by decide)]; exact a11 i j hi hj
/-- a datagram is in the making no more -/
theorem JDa_drop {n nw i : Nat} {s τ : Nat → Nat} (hd : i < n) (h : JDa n nw s τ A M) : JDa (n - 1) nw (fun j => s (dropx i j)) (fun j => τ (dropx i j)) (sF A 832 (438 + 3 * s i) 0) (sF (wB M 316 (rotg (mB M 316) i n)) 208 314 (nI (n - 1))) := by
  obtain ⟨a1, a2, a3, a4, a5, a6, a7, a8, a9, a10, a11⟩ := h
  have hF : ∀ f a, f ≠ 832 → mF (sF A 832 (438 + 3 * s i) 0) f a = mF A f a := fun f a h1 => by rw [mF_sF, if_neg (fun e => h1 e.1)]
  have hF2 : ∀ f a, a ≠ 438 + 3 * s i → mF (sF A 832 (438 + 3 * s i) 0) f a = mF A f a := fun f a h1 => by rw [mF_sF, if_neg (fun e => h1 e.2)]
  have hne : ∀ j, j < n - 1 → s (dropx i j) ≠ s i := fun j hj e => dropx_ne i j (a5 _ _ (dropx_lt hj) hd e)
  refine ⟨by omega, by rw [mF_sF, if_pos ⟨rfl, rfl⟩], (hF _ _ (by decide)).trans a3, fun j hj => a4 _ (dropx_lt hj), fun j l hj hl e => dropx_inj (a5 _ _ (dropx_lt hj) (dropx_lt hl) e), fun j hj => ?_, fun k hk h => ?_, fun j hj => ?_, fun j l hj hl => ?_, fun j hj => ?_, fun j l hj hl e1 e2 e3 => ?_⟩
  · have := hne j hj
    rw [hF2 _ _ (show 438 + 3 * s (dropx i j) ≠ 438 + 3 * s i by omega)]
    exact a6 _ (dropx_lt hj)
  · by_cases c : k = s i
    · rw [c, mF_sF, if_pos ⟨rfl, rfl⟩]
    · rw [hF2 _ _ (by omega)]
      refine a7 k hk (fun j hj e => ?_)
      obtain ⟨l, hl, e2⟩ := dropx_sur (d := i) hj (fun e3 => c (by rw [← e, e3])) hd
      exact h l hl (by show s (dropx i l) = k; rw [e2, e])
  · obtain ⟨q, q1, q2⟩ := a8 _ (dropx_lt (d := i) hj)
    have := hne j hj
    refine ⟨q, ?_, D1_congr (A := A) (M := M) (fun f h1 h2 => hF2 _ _ (show 438 + 3 * s (dropx i j) ≠ 438 + 3 * s i by omega)) rfl rfl (fun f h1 h2 => ?_) rfl rfl q2⟩
    · show mB (wB M 316 (rotg (mB M 316) i n)) 316 j = some q
      rw [mB_wB_self, rotg_x, rotx_drop hj hd]
      exact q1
    · rw [mF_sF, if_neg (by omega)]; rfl
  · rw [hF _ _ (by decide), hF _ _ (by decide)]
    exact a9 _ _ (dropx_mono hj) (dropx_lt hl)
  · rw [hF _ _ (by decide), hF _ _ (by decide)]
    exact a10 _ (dropx_lt hj)
  · rw [hF _ _ (by decide), hF _ _ (by decide)] at e1 e2 e3
    exact dropx_inj (a11 _ _ (dropx_lt hj) (dropx_lt hl) e1 e2 e3)
theorem XRR_rot316 {KN KS d n : Nat} (hd : d < n) (hn : ∀ j, j < n → mB M 316 j ≠ none) (hB : ∀ a, a ≠ 316 → mB M' a = mB M a) (hB3 : mB M' 316 = rotg (mB M 316) d n) (hS : mS M' = mS M) (h : XRR KN KS M) : XRR KN KS M' := by
  obtain ⟨nr, nww, nd, nc, b1, b2, b3, b4, r1, r2, r3, r4, hdd, k1, k2, k3, k4, k5⟩ := h
  have hO : ∀ t a, okA M t a → okA M' t a := fun t a h => by unfold okA; rw [hS]; exact h
  have hnn : n ≤ nd := by
    cases e : mB M 316 (n - 1) with
    | none => exact absurd e (hn (n - 1) (by omega))
    | some q => have := (rowN_at r3 e).1; omega
  refine ⟨nr, nww, nd, nc, b1, b2, b3, b4, rowN_same (hB 306 (by decide)) (hO 6) r1, rowN_same (hB 313 (by decide)) (hO 6) r2, rowN_rot hB3 (hO 2) hd hnn r3, rowN_same (hB 318 (by decide)) (hO 1) r4, fun i j p e1 e2 => ?_, by rw [hS]; exact k1, by rw [hS]; exact k2, k3, k4, by rw [hS]; exact k5⟩
  rw [hB 306 (by decide)] at e1
  rw [hB 313 (by decide)] at e2
  exact hdd _ _ p e1 e2
/-- does the datagram agree with a fragment -/
theorem dg_agree (fu : Nat) (hf : 4100 ≤ fu) (hR : RW A) {nw k d τ o sz : Nat} (hk : k < 4) (hd : okA M 2 d) (h : D1 A M nw k d τ) (ho : o + sz ≤ 4096) {mo : Int32} (hmo : mo = 0 ∨ mo = 1) (x p at' : Int32) :
    (fX2_agrees fu d (nI (o + sz)) mo M = some (1, M) ∧ fX16_fragment_L184 fu 323 x p (nI o) at' (nI sz) mo (some (438 + 3 * k)) A = fX16_fragment_L279 fu 323 x p (nI o) at' (nI sz) mo (some (438 + 3 * k)) (nI (o + sz)) 0 A ∧ (mo = 0 → ∀ j, o + sz ≤ j → j < 4096 → bitOf (mA M (d + 2)) j = false) ∧ (mo = 1 → ∀ e, e ≤ 4096 → (mF M 133 d) = nI e → o + sz ≤ e)) ∨
    (fX2_agrees fu d (nI (o + sz)) mo M = some (0, M) ∧ fX16_fragment_L184 fu 323 x p (nI o) at' (nI sz) mo (some (438 + 3 * k)) A = fX16_fragment_L279 fu 323 x p (nI o) at' (nI sz) mo (some (438 + 3 * k)) (nI (o + sz)) 1 A) := by
  obtain ⟨-, -, -, d4, -, -, -, -, d9, -, -, r, r1, r2, dE⟩ := h
  have hoz : (nI o : Int32) + nI sz = nI (o + sz) := nI_add o sz
  have one0 : ¬ (1 : Int32) = 0 := by decide
  have th0 : ∀ j, j < 4096 → bitOf (mA M (d + 2)) j = false → mA A (440 + 3 * k) j = 0 := fun j hj e => by rw [d9 j hj, e]; rfl
  have th1 : ∀ j, j < 4096 → bitOf (mA M (d + 2)) j = true → mA A (440 + 3 * k) j ≠ 0 := fun j hj e => by rw [d9 j hj, e]; decide
  have e31 : o + sz < 2 ^ 31 := by omega
  unfold fX2_agrees fX16_fragment_L184 fX16_fragment_L230 fX16_fragment_L226 fX16_fragment_L231
  rw [gI_ok (rw_dgO hR k hk), ob_some, d4, hoz, gI_ok hd, ob_some, ob_some, ob_some]
  rcases dE with ⟨e1, e2, e3⟩ | ⟨e, e0, e1, e2⟩
  · rw [e1, if_pos (show (-1 : Int32) < 0 by decide)]
    rcases hmo with rfl | rfl
    · rw [if_pos rfl, if_pos rfl, if_neg (show ¬ (0 : Int32) ≤ -1 by decide), gI_ok hd, ob_some, r2]
      by_cases c : o + sz < r
      · right
        refine ⟨by rw [if_pos (nI_lt c (by omega)), rN0], ?_⟩
        refine m_wrongX hR hf hk x p (nI o) at' (nI sz) 0 _ ⟨r - 1, by omega, by omega, th1 _ (by omega) ?_⟩
        rcases e3 with q | q
        · omega
        · exact q
      · left
        refine ⟨by rw [if_neg (nI_nlt (by omega) e31), rN1], ?_, fun _ j h1 h2 => e2 j (by omega) h2, fun q => absurd q (by decide)⟩
        exact m_wrong0 hR hf hk ho x p (nI o) at' (nI sz) 0 _ (fun j h1 h2 => th0 j h2 (e2 j (by omega) h2))
    · rw [if_neg one0, if_neg one0, if_pos (show (-1 : Int32) < 0 by decide)]
      left
      refine ⟨rN1, rfl, fun q => absurd q one0, fun _ e he q => ?_⟩
      have : ¬ nI e < 0 := nI_pos (by omega)
      rw [← q] at this
      exact absurd (show (-1 : Int32) < 0 by decide) this
  · have n0 : ¬ nI e < 0 := nI_pos (by omega)
    have p0 : (0 : Int32) ≤ nI e := nI_0le (by omega)
    rcases hmo with rfl | rfl
    · simp only [e1, n0, p0, if_false, if_true, ob_some]
      by_cases c : o + sz = e
      · subst c
        left
        refine ⟨by rw [if_pos rfl, rN1], ?_, fun _ => e2, fun q => absurd q (by decide)⟩
        rw [if_pos rfl]
        exact m_wrong0 hR hf hk ho x p (nI o) at' (nI sz) 0 _ (fun j h1 h2 => th0 j h2 (e2 j h1 h2))
      · have c' : ¬ nI (o + sz) = nI e := fun q => c ((nI_eq e31 (by omega)).mp q)
        right
        refine ⟨by rw [if_neg c', rN0], ?_⟩
        rw [if_neg c']
        exact m_wrong1 hR hf hk ho x p (nI o) at' (nI sz) 0 _ fu (by omega)
    · simp only [e1, n0, one0, if_false, ob_some]
      by_cases c : o + sz ≤ e
      · left
        refine ⟨by rw [if_neg (nI_nlt c (by omega)), rN1], by rw [if_pos (nI_le c (by omega))], fun q => q.elim, fun _ e' he q => ?_⟩
        have := (nI_eq (show e < 2 ^ 31 by omega) (show e' < 2 ^ 31 by omega)).mp q
        omega
      · right
        exact ⟨by rw [if_pos (nI_lt (by omega) e31), rN0], by rw [if_neg (nI_ge (by omega) e31)]⟩
/-- the datagram with the fragment in it -/
theorem D1_put {nw k d τ o at' sz tr ln : Nat} (hk : k < 4) (h : D1 A M nw k d τ) (ho : o + sz ≤ 4096) (hT : ∀ j, j < ln → mA A 324 j = mA M tr j) (hat : at' + sz ≤ ln) {mo : Int32} (hmo : mo = 0 ∨ mo = 1) (h1 : mo = 1 → 1 ≤ sz) (c0 : mo = 0 → ∀ j, o + sz ≤ j → j < 4096 → bitOf (mA M (d + 2)) j = false) (c1 : mo = 1 → ∀ e, e ≤ 4096 → (mF M 133 d) = nI e → o + sz ≤ e) {r : Nat} (hr : (mF M 135 d) = nI r) (hr2 : r ≤ 4096) :
    D1 (if mo = 0 then dmI (sF A 836 (438 + 3 * k) (nI (o + sz))) k o at' sz else dmI A k o at' sz) (if mo = 0 then sF (sF (dgI M d tr o at' sz) 135 d (nI (max r (o + sz)))) 133 d (nI (o + sz)) else sF (dgI M d tr o at' sz) 135 d (nI (max r (o + sz)))) nw k d τ := by
  obtain ⟨d1, d2, d3, d4, d5, d6, d7, d8, d9, d10, d11, r', r1, r2, dE⟩ := h
  obtain rfl : r' = r := (nI_eq (by omega) (by omega)).mp (r2.symm.trans hr)
  have bits : ∀ j, bitOf (tg (mA M (d + 2)) o sz) j = (decide (o ≤ j ∧ j < o + sz) || bitOf (mA M (d + 2)) j) := tg_bit _ _ _
  have rowT : ∀ j, j < 4096 → (if o ≤ j ∧ j < o + sz then (1 : Int32) else mA A (440 + 3 * k) j) = if bitOf (tg (mA M (d + 2)) o sz) j then 1 else 0 := by
    intro j hj
    rw [bits]
    by_cases c : o ≤ j ∧ j < o + sz
    · simp only [c, and_self, if_true, decide_true, Bool.true_or]
    · simp only [c, if_false, decide_false, Bool.false_or]
      exact d9 j hj
  have rowB : ∀ j, j < 4096 → bitOf (tg (mA M (d + 2)) o sz) j = true → (if o ≤ j ∧ j < o + sz ∧ mA A (440 + 3 * k) j = 0 then mA A 324 (at' + (j - o)) else mA A (439 + 3 * k) j) = bg (mA M (d + 2)) (mA M (d + 1)) (mA M tr) o at' sz j := by
    intro j hj e
    unfold bg
    rw [bits] at e
    by_cases c : o ≤ j ∧ j < o + sz
    · by_cases c2 : bitOf (mA M (d + 2)) j = true
      · rw [if_neg (fun q => by rw [d9 j hj, c2] at q; exact absurd q.2.2 (by decide)), if_neg (fun q => by rw [c2] at q; exact absurd q.2.2 (by decide))]
        exact d10 j hj c2
      · have c3 := Bool.eq_false_iff.mpr c2
        rw [if_pos ⟨c.1, c.2, by rw [d9 j hj, c3]; rfl⟩, if_pos ⟨c.1, c.2, c3⟩]
        exact hT _ (by omega)
    · simp only [c, decide_false, Bool.false_or] at e
      rw [if_neg (fun q => c ⟨q.1, q.2.1⟩), if_neg (fun q => c ⟨q.1, q.2.1⟩)]
      exact d10 j hj e
  have n0 : ¬ (1 : Int32) = 0 := by decide
  rcases hmo with rfl | rfl
  · rw [if_pos rfl, if_pos rfl]
    have c0' := c0 rfl
    unfold D1 dmI dgI
    simp only [mF_wA, mF_sF, mA_sF, mA_wA_self, reduceIte, Nat.reduceEqDiff, Nat.reduceAdd, Nat.reduceMul, Nat.reduceLT, Nat.reduceLeDiff, and_true, true_and, and_false, false_and, and_self, ne_eq, not_true_eq_false, not_false_eq_true, Option.some.injEq, reduceCtorEq, mA_wA_ne (show 440 + 3 * k ≠ 439 + 3 * k by omega), mA_wA_ne (show d + 2 ≠ d + 1 by omega)]
    refine ⟨d1, d2, d3, d5, d6, d7, d8, rowT, rowB, max r' (o + sz), by omega, rfl, Or.inr ⟨o + sz, ho, rfl, fun j h1 h2 => ?_⟩⟩
    rw [bits, c0' j h1 h2]
    have : ¬ (o ≤ j ∧ j < o + sz) := by omega
    simp [this]
  · rw [if_neg n0, if_neg n0]
    have h1' := h1 rfl
    unfold D1 dmI dgI
    simp only [mF_wA, mF_sF, mA_sF, mA_wA_self, reduceIte, Nat.reduceEqDiff, Nat.reduceAdd, Nat.reduceMul, Nat.reduceLT, Nat.reduceLeDiff, and_true, true_and, and_false, false_and, and_self, ne_eq, not_true_eq_false, not_false_eq_true, Option.some.injEq, reduceCtorEq, mA_wA_ne (show 440 + 3 * k ≠ 439 + 3 * k by omega), mA_wA_ne (show d + 2 ≠ d + 1 by omega)]
    refine ⟨d1, d2, d3, d4, d5, d6, d7, d8, rowT, rowB, max r' (o + sz), by omega, rfl, ?_⟩
    rcases dE with ⟨e1, e2, e3⟩ | ⟨e, e0, e1, e2⟩
    · refine Or.inl ⟨e1, fun j h2 h3 => ?_, ?_⟩
      · rw [bits, e2 j (by omega) h3]
        have : ¬ (o ≤ j ∧ j < o + sz) := by omega
        simp [this]
      · right
        rw [bits]
        by_cases c : r' ≤ o + sz
        · have e4 : max r' (o + sz) = o + sz := by omega
          have : o ≤ o + sz - 1 ∧ o + sz - 1 < o + sz := by omega
          rw [e4]
          simp [this]
        · have e4 : max r' (o + sz) = r' := by omega
          rw [e4]
          rcases e3 with q | q
          · omega
          · rw [q]; simp
    · refine Or.inr ⟨e, e0, e1, fun j h2 h3 => ?_⟩
      have := c1 rfl e e0 e1
      rw [bits, e2 j h2 h3]
      have : ¬ (o ≤ j ∧ j < o + sz) := by omega
      simp [this]
end Jd
