/-! ===== part 9z6: whether an image is right, in the class ===== -/
/-- where a file lies -/
def LW (B : Nat → Int32) (im at' : Nat) : Prop := wN B (at' + 48) + wN B (at' + 52) ≤ im ∧ wN B (at' + 60) = 0
/-- two entries have one name -/
def SM (B : Nat → Int32) (i k : Nat) : Prop := ∀ j, j < 48 → bv (B (8 + 64 * i + j)) = bv (B (8 + 64 * k + j))
def EOK (B : Nat → Int32) (im k : Nat) : Prop := NM (fun j => bv (B (8 + 64 * k + j))) ∧ LW B im (8 + 64 * k) ∧ ¬ ∃ i, i < k ∧ SM B i k
def ALL (B : Nat → Int32) (im F : Nat) : Prop := F ≤ 64 ∧ 12 + 64 * F ≤ im ∧ wN B 0 = 1398034258 ∧ 256 * bv (B 6) + bv (B 7) = 0 ∧ 256 * bv (B 4) + bv (B 5) = F ∧ crB B 0 (8 + 64 * F) ^^^ (-1 : Int32) = nI (wN B (8 + 64 * F)) ∧ ∀ k, k < F → EOK B im k
section Right
variable {A M : Mm} {im ig at' : Nat} {B : Nat → Int32}
theorem x_fourB (fu : Nat) (oi : okA M 100 ig) (li : sLen (mS M) ig = im) (l2 : im ≤ 65535) (hB : ∀ j, j < im → mA M ig j = B j) {i : Nat} (hi : i + 4 ≤ im) : fX11_four fu (some ig) (nI i) M = some (nI (wN B i), M) := by
  rw [x_four fu oi (by rw [li]; omega) (by rw [li]; omega), w4_congr (g' := B) (fun j h1 h2 => hB j (by omega)), w4_nI]
theorem x_lies (fu : Nat) (o8 : okA M 8 301) (gi : mG M 512 301 = some ig) (oi : okA M 100 ig) (li : sLen (mS M) ig = im) (l2 : im ≤ 65535) (hB : ∀ j, j < im → mA M ig j = B j) (ha : at' + 64 ≤ im) : ∃ v, fX8_liesWithin fu 301 (nI at') M = some (v, M) ∧ (v = 0 ∨ v = 1) ∧ (v = 1 ↔ LW B im at') := by
  have e48 : nI at' + (48 : Int32) = nI (at' + 48) := nI_add at' 48
  have e52 : nI (at' + 48) + (4 : Int32) = nI (at' + 52) := nI_add (at' + 48) 4
  have e60 : nI (at' + 48) + (12 : Int32) = nI (at' + 60) := nI_add (at' + 48) 12
  have b1 := wN_lt B (at' + 48)
  have b2' := wN_lt B (at' + 52)
  have b3 := wN_lt B (at' + 60)
  obtain ⟨-, -, -, L⟩ := lgc (a := wN B (at' + 48) + wN B (at' + 52)) (b := im) (by omega) (by omega)
  unfold fX8_liesWithin
  rw [gR_ok o8, ob_some, gi, e48, x_fourB fu oi li l2 hB (by omega), b2_some, mask64 b1, ob_some, gR_ok o8, ob_some, gi, e52, x_fourB fu oi li l2 hB (by omega), b2_some, mask64 b2', ob_some, gR_ok o8, ob_some, gi, aL_ok oi li, ob_some, nI_l (by omega), lN_add]
  by_cases c1 : im < wN B (at' + 48) + wN B (at' + 52)
  · rw [if_pos (L.mpr c1), rN0]
    exact ⟨0, rfl, Or.inl rfl, ⟨fun y => absurd y (by decide), fun y => by have := y.1; omega⟩⟩
  · rw [if_neg (fun e => c1 (L.mp e)), ob_some, e60, x_fourB fu oi li l2 hB (by omega), b2_some]
    by_cases c2 : wN B (at' + 60) = 0
    · rw [c2, if_pos nI_0, rN1]
      exact ⟨1, rfl, Or.inr rfl, ⟨fun _ => ⟨by omega, c2⟩, fun _ => rfl⟩⟩
    · rw [if_neg (fun e => c2 (nI_inj32 b3 (by decide) (e.trans (show (0 : Int32) = nI 0 from rfl)))), rN0]
      exact ⟨0, rfl, Or.inl rfl, ⟨fun y => absurd y (by decide), fun y => absurd y.2 c2⟩⟩
theorem x_bef1 (fu : Nat) (o8 : okA M 8 301) (gi : mG M 512 301 = some ig) (oi : okA M 100 ig) (li : sLen (mS M) ig = im) (l2 : im ≤ 65535) (hB : ∀ j, j < im → mA M ig j = B j) {i k : Nat} (hk : 8 + 64 * k + 48 ≤ im) (hi : i < k) (k3 : Nat → Int32 → Int32 → Mm → Option (Int32 × Mm)) : ∀ m j, j ≤ 48 → 48 < j + m → (∀ j', j' < j → bv (B (8 + 64 * i + j')) = bv (B (8 + 64 * k + j'))) →
    (SM B i k ∧ fX8_isNamedBefore_L10 fu k3 m 301 (nI (8 + 64 * k)) (nI (8 + 64 * i)) (nI j) M = some (1, M)) ∨ (¬ SM B i k ∧ fX8_isNamedBefore_L10 fu k3 m 301 (nI (8 + 64 * k)) (nI (8 + 64 * i)) (nI j) M = k3 301 (nI (8 + 64 * k)) (nI (8 + 64 * (i + 1))) M)
  | 0, j, h1, h2, _ => absurd h2 (by omega)
  | m + 1, j, h1, h2, h3 => by
    have e64 : nI (8 + 64 * i) + (64 : Int32) = nI (8 + 64 * (i + 1)) := by
      rw [show nI (8 + 64 * i) + (64 : Int32) = nI (8 + 64 * i + 64) from nI_add _ 64]
      congr 1
    rw [fX8_isNamedBefore_L10]
    by_cases q : 48 ≤ j
    · have : j = 48 := by omega
      subst this
      refine Or.inl ⟨h3, ?_⟩
      rw [if_pos (show (48 : Int32) ≤ nI 48 by decide)]
      unfold fX8_isNamedBefore_L45
      rw [if_pos (show nI 48 = 48 from rfl), rN1]
    · have b0 := bv_lt (B (8 + 64 * i + j))
      have b1 := bv_lt (B (8 + 64 * k + j))
      rw [if_neg (show ¬ (48 : Int32) ≤ nI j from nI_ge (b := 48) (by omega) (by decide)), gR_ok o8, ob_some, gi, nI_add, x_oneB fu oi li l2 hB (by omega), b2_some, gR_ok o8, ob_some, gi, nI_add, x_oneB fu oi li l2 hB (by omega), b2_some]
      by_cases z : bv (B (8 + 64 * i + j)) = bv (B (8 + 64 * k + j))
      · rw [if_pos (by rw [z]), nI_1]
        refine x_bef1 fu o8 gi oi li l2 hB hk hi k3 m (j + 1) (by omega) (by omega) (fun j' hj => ?_)
        by_cases y : j' = j
        · rw [y]; exact z
        · exact h3 j' (by omega)
      · refine Or.inr ⟨fun y => z (y j (by omega)), ?_⟩
        rw [if_neg (fun e => z ((nI_eq (by omega) (by omega)).mp e))]
        unfold fX8_isNamedBefore_L45
        rw [if_neg (show ¬ nI j = 48 from fun e => q (by have := (nI_eq (b := 48) (by omega) (by decide)).mp e; omega)), e64]
theorem x_bef (fu : Nat) (hfu : 100 ≤ fu) (o8 : okA M 8 301) (gi : mG M 512 301 = some ig) (oi : okA M 100 ig) (li : sLen (mS M) ig = im) (l2 : im ≤ 65535) (hB : ∀ j, j < im → mA M ig j = B j) {k : Nat} (hk : 8 + 64 * k + 48 ≤ im) : ∀ m i, i ≤ k → k < i + m → ∃ v, fX8_isNamedBefore_L3 fu m 301 (nI (8 + 64 * k)) (nI (8 + 64 * i)) M = some (v, M) ∧ (v = 0 ∨ v = 1) ∧ (v = 1 ↔ ∃ i', i ≤ i' ∧ i' < k ∧ SM B i' k)
  | 0, i, h1, h2 => absurd h2 (by omega)
  | m + 1, i, h1, h2 => by
    rw [fX8_isNamedBefore_L3]
    by_cases q : k ≤ i
    · have : i = k := by omega
      subst this
      rw [if_pos (Int32.le_refl _), rN0]
      exact ⟨0, rfl, Or.inl rfl, ⟨fun y => absurd y (by decide), fun ⟨i', a1, a2, _⟩ => by omega⟩⟩
    · rw [if_neg (nI_ge (by omega) (by omega))]
      rcases x_bef1 (B := B) fu o8 gi oi li l2 hB hk (i := i) (by omega) (fun b0 b1 b2 M => fX8_isNamedBefore_L3 fu m b0 b1 b2 M) fu 0 (by omega) (by omega) (fun j' hj => by omega) with ⟨s, e⟩ | ⟨s, e⟩
      · exact ⟨1, e, Or.inr rfl, ⟨fun _ => ⟨i, Nat.le_refl _, by omega, s⟩, fun _ => rfl⟩⟩
      · obtain ⟨v, e1, e2, e3⟩ := x_bef fu hfu o8 gi oi li l2 hB hk m (i + 1) (by omega) (by omega)
        refine ⟨v, e.trans e1, e2, e3.trans ⟨fun ⟨i', a1, a2, a3⟩ => ⟨i', by omega, a2, a3⟩, fun ⟨i', a1, a2, a3⟩ => ⟨i', ?_, a2, a3⟩⟩⟩
        apply Classical.byContradiction
        intro z
        have : i' = i := by omega
        rw [this] at a3
        exact s a3
theorem x_rightL (fu : Nat) (hfu : 100 ≤ fu) (o8 : okA M 8 301) (gi : mG M 512 301 = some ig) (oi : okA M 100 ig) (li : sLen (mS M) ig = im) (l2 : im ≤ 65535) (hB : ∀ j, j < im → mA M ig j = B j) {F : Nat} (hF : F ≤ 64) (hF2 : 12 + 64 * F ≤ im) : ∀ m k, k ≤ F → F < k + m → ∃ v, fX8_isRight_L82 fu m 301 (nI F) (nI k) M = some (v, M) ∧ (v = 0 ∨ v = 1) ∧ (v = 1 ↔ ∀ k', k ≤ k' → k' < F → EOK B im k')
  | 0, k, h1, h2 => absurd h2 (by omega)
  | m + 1, k, h1, h2 => by
    have ek : (8 : Int32) + (64 : Int32) * nI k = nI (8 + 64 * k) := by
      rw [show (64 : Int32) * nI k = nI (64 * k) from pk_mul 64 k]
      exact nI_add 8 (64 * k)
    rw [fX8_isRight_L82]
    by_cases q : F ≤ k
    · rw [if_pos (nI_le q (by omega)), rN1]
      exact ⟨1, rfl, Or.inr rfl, ⟨fun _ k' a1 a2 => by omega, fun _ => rfl⟩⟩
    · have NO : ¬ EOK B im k → ((0 : Int32) = 1 ↔ ∀ k', k ≤ k' → k' < F → EOK B im k') := fun n => ⟨fun y => absurd y (by decide), fun y => absurd (y k (Nat.le_refl _) (by omega)) n⟩
      rw [if_neg (nI_ge (by omega) (by omega)), rc_ok o8, ob_some, ek]
      obtain ⟨v1, p1, p2, p3⟩ := x_nameR (B := B) fu hfu o8 gi oi li l2 hB (at' := 8 + 64 * k) (by omega)
      rw [p1, b2_some]
      rcases p2 with e | e
      · rw [e, if_pos rfl, rN0]
        exact ⟨0, rfl, Or.inl rfl, NO (fun y => by have := p3.mpr y.1; rw [e] at this; exact absurd this (by decide))⟩
      have q1 := p3.mp e
      rw [e, if_neg (by decide), rc_ok o8, ob_some]
      obtain ⟨v2, r1, r2, r3⟩ := x_lies (B := B) fu o8 gi oi li l2 hB (at' := 8 + 64 * k) (by omega)
      rw [r1, b2_some]
      rcases r2 with e | e
      · rw [e, if_pos rfl, rN0]
        exact ⟨0, rfl, Or.inl rfl, NO (fun y => by have := r3.mpr y.2.1; rw [e] at this; exact absurd this (by decide))⟩
      have q2 := r3.mp e
      rw [e, if_neg (by decide), rc_ok o8, ob_some]
      obtain ⟨v3, s1, s2, s3⟩ := x_bef (B := B) fu hfu o8 gi oi li l2 hB (k := k) (by omega) fu 0 (by omega) (by omega)
      unfold fX8_isNamedBefore
      rw [show (8 : Int32) = nI (8 + 64 * 0) from rfl, s1, b2_some]
      rcases s2 with e | e
      · rw [e, if_pos rfl, nI_1]
        have q3 : ¬ ∃ i, i < k ∧ SM B i k := fun ⟨i, i1, i2⟩ => by have := s3.mpr ⟨i, Nat.zero_le _, i1, i2⟩; rw [e] at this; exact absurd this (by decide)
        obtain ⟨v, e1, e2, e3⟩ := x_rightL fu hfu o8 gi oi li l2 hB hF hF2 m (k + 1) (by omega) (by omega)
        refine ⟨v, e1, e2, e3.trans ⟨fun y k' a1 a2 => ?_, fun y k' a1 a2 => y k' (by omega) a2⟩⟩
        by_cases z : k' = k
        · rw [z]; exact ⟨q1, q2, q3⟩
        · exact y k' (by omega) a2
      · rw [e, if_neg (by decide), rN0]
        obtain ⟨i, -, i1, i2⟩ := s3.mp e
        exact ⟨0, rfl, Or.inl rfl, NO (fun y => y.2.2 ⟨i, i1, i2⟩)⟩
theorem x_two0 (fu : Nat) (oi : okA M 100 ig) (l4 : 4 ≤ sLen (mS M) ig) (l2 : sLen (mS M) ig ≤ 65535) {i : Nat} (hi : i < 1000) : ∃ n, n < 65536 ∧ fX11_two fu (some ig) (nI i) M = some (nI n, M) := by
  by_cases q : i + 2 ≤ sLen (mS M) ig
  · have b0 := bv_lt (mA M ig i)
    have b1 := bv_lt (mA M ig (i + 1))
    exact ⟨256 * bv (mA M ig i) + bv (mA M ig (i + 1)), by omega, by rw [x_two fu oi (by omega) q, h2_nI]⟩
  · refine ⟨0, by decide, ?_⟩
    unfold fX11_two
    have e2 : nI (sLen (mS M) ig) - (2 : Int32) = nI (sLen (mS M) ig - 2) := nI_sub (y := 2) (by omega)
    rw [if_neg (nI_pos (by omega)), aL_ok oi rfl, ob_some, e2, if_neg (nI_ge (by omega) (by omega))]
    rfl
theorem x_isRight (fu : Nat) (hfu : 70000 ≤ fu) (hW : XW M) (hj : JI im ig A M) : ∃ v, fX8_isRight fu 301 M = some (v, M) ∧ (v = 0 ∨ v = 1) ∧ (v = 1 ↔ ∃ F, ALL (mA A 325) im F) := by
  have o8 := xw_ok301 hW
  have hj' := hj
  obtain ⟨gi, oi, li, l2, hB', -⟩ := hj'
  have hB : ∀ j, j < im → mA M ig j = mA A 325 j := fun j h => (hB' j h).symm
  have NO : (∀ F, ¬ ALL (mA A 325) im F) → ((0 : Int32) = 1 ↔ ∃ F, ALL (mA A 325) im F) := fun n => ⟨fun y => absurd y (by decide), fun ⟨F, y⟩ => absurd y (n F)⟩
  unfold fX8_isRight
  rw [gR_ok o8, ob_some, gi]
  by_cases c0 : im < 4
  · rw [x_four0 fu oi (by rw [li]; exact c0), b2_some, if_neg (by decide), rN0]
    exact ⟨0, rfl, Or.inl rfl, NO (fun F y => by have := y.2.1; omega)⟩
  have w0 := wN_lt (mA A 325) 0
  have e0 : fX11_four fu (some ig) (0 : Int32) M = some (nI (wN (mA A 325) 0), M) := x_fourB (B := mA A 325) fu oi li l2 hB (i := 0) (by omega)
  rw [e0, b2_some]
  by_cases c1n : ¬ wN (mA A 325) 0 = 1398034258
  · have c1 := c1n
    rw [if_neg (fun e => c1 (nI_inj32 w0 (by decide) (e.trans (show (1398034258 : Int32) = nI 1398034258 from rfl)))), rN0]
    exact ⟨0, rfl, Or.inl rfl, NO (fun F y => c1 y.2.2.1)⟩
  have c1 := Classical.not_not.mp c1n
  rw [if_pos (by rw [c1]; rfl), gR_ok o8, ob_some, gi]
  by_cases c12 : im < 12
  · obtain ⟨n6, d1, d2⟩ := x_two0 fu oi (by rw [li]; omega) (by rw [li]; omega) (i := 6) (by decide)
    obtain ⟨n4, d3, d4⟩ := x_two0 fu oi (by rw [li]; omega) (by rw [li]; omega) (i := 4) (by decide)
    refine ⟨0, ?_, Or.inl rfl, NO (fun F y => by have := y.2.1; omega)⟩
    have d2 : fX11_two fu (some ig) (6 : Int32) M = some (nI n6, M) := d2
    have d4 : fX11_two fu (some ig) (4 : Int32) M = some (nI n4, M) := d4
    rw [d2, b2_some]
    by_cases z : nI n6 = 0
    · rw [if_pos z, gR_ok o8, ob_some, gi, d4, b2_some]
      by_cases z2 : 64 < n4
      · rw [if_pos (show (64 : Int32) < nI n4 from nI_lt (a := 64) z2 (by omega)), rN0]
      · rw [if_neg (show ¬ (64 : Int32) < nI n4 from nI_nlt (a := 64) (by omega) (by decide)), gR_ok o8, ob_some, gi, aL_ok oi li, ob_some, show (64 : Int32) * nI n4 = nI (64 * n4) from pk_mul 64 n4, show (8 : Int32) + nI (64 * n4) = nI (8 + 64 * n4) from nI_add 8 _, show nI (8 + 64 * n4) + (4 : Int32) = nI (8 + 64 * n4 + 4) from nI_add _ 4, if_pos (nI_lt (by omega) (by omega)), rN0]
    · rw [if_neg z, rN0]
  have x2 : ∀ i, i + 2 ≤ 12 → fX11_two fu (some ig) (nI i) M = some (nI (256 * bv (mA A 325 i) + bv (mA A 325 (i + 1))), M) := fun i hi => by
    rw [x_two fu oi (by rw [li]; omega) (by rw [li]; omega), h2_congr (g' := mA A 325) (hB i (by omega)) (hB (i + 1) (by omega)), h2_nI]
  have v6 := bv_lt (mA A 325 6)
  have v7 := bv_lt (mA A 325 7)
  have v4 := bv_lt (mA A 325 4)
  have v5 := bv_lt (mA A 325 5)
  have t6 : fX11_two fu (some ig) (6 : Int32) M = some (nI (256 * bv (mA A 325 6) + bv (mA A 325 7)), M) := x2 6 (by decide)
  have t4 : fX11_two fu (some ig) (4 : Int32) M = some (nI (256 * bv (mA A 325 4) + bv (mA A 325 5)), M) := x2 4 (by decide)
  rw [t6, b2_some]
  by_cases c2n : ¬ 256 * bv (mA A 325 6) + bv (mA A 325 7) = 0
  · have c2 := c2n
    rw [if_neg (show ¬ nI (256 * bv (mA A 325 6) + bv (mA A 325 7)) = 0 from fun e => c2 ((nI_eq (b := 0) (by omega) (by decide)).mp e)), rN0]
    exact ⟨0, rfl, Or.inl rfl, NO (fun F y => c2 y.2.2.2.1)⟩
  have c2 := Classical.not_not.mp c2n
  rw [if_pos (by rw [c2]; exact nI_0), gR_ok o8, ob_some, gi, t4, b2_some]
  generalize hF : 256 * bv (mA A 325 4) + bv (mA A 325 5) = F
  by_cases c3 : 64 < F
  · rw [if_pos (show (64 : Int32) < nI F from nI_lt (a := 64) c3 (by omega)), rN0]
    exact ⟨0, rfl, Or.inl rfl, NO (fun G y => by have := y.1; have := y.2.2.2.2.1; omega)⟩
  rw [if_neg (show ¬ (64 : Int32) < nI F from nI_nlt (a := 64) (by omega) (by decide)), gR_ok o8, ob_some, gi, aL_ok oi li, ob_some, show (64 : Int32) * nI F = nI (64 * F) from pk_mul 64 F, show (8 : Int32) + nI (64 * F) = nI (8 + 64 * F) from nI_add 8 _, show nI (8 + 64 * F) + (4 : Int32) = nI (8 + 64 * F + 4) from nI_add _ 4]
  by_cases c4 : im < 8 + 64 * F + 4
  · rw [if_pos (nI_lt c4 (by omega)), rN0]
    exact ⟨0, rfl, Or.inl rfl, NO (fun G y => by have := y.2.1; have := y.2.2.2.2.1; omega)⟩
  have ck : fX8_checkOf fu 301 (0 : Int32) (nI (8 + 64 * F)) M = some (crB (mA A 325) 0 (8 + 64 * F) ^^^ (-1 : Int32), M) := x_check fu hfu hW hj (p := 0) (l := 8 + 64 * F) (by omega)
  rw [if_neg (nI_nlt (by omega) (by omega)), ob_some, x_fourB (B := mA A 325) fu oi li l2 hB (by omega), b2_some, rc_ok o8, ob_some, ck, b2_some]
  by_cases c5 : crB (mA A 325) 0 (8 + 64 * F) ^^^ (-1 : Int32) = nI (wN (mA A 325) (8 + 64 * F))
  · rw [if_pos c5.symm]
    obtain ⟨v, e1, e2, e3⟩ := x_rightL (B := mA A 325) fu (by omega) o8 gi oi li l2 hB (F := F) (by omega) (by omega) fu 0 (by omega) (by omega)
    refine ⟨v, e1, e2, e3.trans ⟨fun y => ⟨F, by omega, by omega, c1, c2, hF, c5, fun k hk => y k (Nat.zero_le _) hk⟩, fun ⟨G, y⟩ k' _ k2 => ?_⟩⟩
    have g : G = F := by have := y.2.2.2.2.1; omega
    rw [g] at y
    exact y.2.2.2.2.2.2 k' k2
  · rw [if_neg (fun e => c5 e.symm), rN0]
    refine ⟨0, rfl, Or.inl rfl, NO (fun G y => ?_)⟩
    have g : G = F := by have := y.2.2.2.2.1; omega
    rw [g] at y
    exact c5 y.2.2.2.2.2.1
end Right
