/-! ===== part 9z7: whether an image is right, in the reference ===== -/
theorem isB_inj {a b : Int32} (ha : isB a) (hb : isB b) : a = b ↔ bv a = bv b := by
  refine ⟨fun e => by rw [e], fun e => ?_⟩
  have h1 := byt_u8 a ha
  have h2 := byt_u8 b hb
  rw [u8_bv, e, ← u8_bv, h2] at h1
  exact h1.symm
section Files
variable {A : Mm} {im at' : Nat}
theorem iw_step (fu n : Nat) (hR : RW A) {i x : Nat} (hi : i < 4) (hx : x < 2 ^ 32) (ha : at' + 4 ≤ 65535) : fX16_imageWord_L5 fu (n + 1) 323 (nI at') (lN x) (nI i) A = fX16_imageWord_L5 fu n 323 (nI at') (lN (256 * x + bv (mA A 325 (at' + i)))) (nI (i + 1)) A := by
  have b := bv_lt (mA A 325 (at' + i))
  have e1 : mA A 325 (at' + i) &&& (255 : Int32) = nI (bv (mA A 325 (at' + i))) := u8_bv _
  have e2 : lN x <<< (Int32.toInt64 (8 : Int32) &&& 63) = lN (x * 2 ^ 8) := wb_shl x (k := 8) (by decide)
  rw [fX16_imageWord_L5, if_neg (show ¬ (4 : Int32) ≤ nI i from nI_ge (b := 4) hi (by decide)), gR_ok (rw_ok323 hR), ob_some, rw_g1026_323 hR, nI_add, gA_ok (rw_ok325 hR) (by rw [rw_ln325 hR]; omega) (by omega), ob_some, e1, e2, nI_l (by omega), wb_or (by omega) (by omega), ob_some, nI_1, Nat.mul_comm x, ← Nat.two_pow_add_eq_or_of_lt (show bv (mA A 325 (at' + i)) < 2 ^ 8 from b)]
theorem m_word64 (fu : Nat) (hfu : 5 ≤ fu) (hR : RW A) (ha : at' + 4 ≤ 65535) : fX16_imageWord fu 323 (nI at') A = some (lN (wN (mA A 325) at'), A) := by
  have b0 := bv_lt (mA A 325 (at' + 0))
  have b1 := bv_lt (mA A 325 (at' + 1))
  have b2' := bv_lt (mA A 325 (at' + 2))
  have b3 := bv_lt (mA A 325 (at' + 3))
  obtain ⟨m, hm⟩ : ∃ m, fu = m + 5 := ⟨fu - 5, by omega⟩
  have key : fX16_imageWord_L5 fu (m + 5) 323 (nI at') (lN 0) (nI 0) A = some (lN (wN (mA A 325) at'), A) := by
    have s0 := iw_step (A := A) fu (m + 4) hR (i := 0) (x := 0) (by decide) (by decide) ha
    have s1 := iw_step (A := A) fu (m + 3) hR (i := 1) (x := 256 * 0 + bv (mA A 325 (at' + 0))) (by decide) (by omega) ha
    have s2 := iw_step (A := A) fu (m + 2) hR (i := 2) (x := 256 * (256 * 0 + bv (mA A 325 (at' + 0))) + bv (mA A 325 (at' + 1))) (by decide) (by omega) ha
    have s3 := iw_step (A := A) fu (m + 1) hR (i := 3) (x := 256 * (256 * (256 * 0 + bv (mA A 325 (at' + 0))) + bv (mA A 325 (at' + 1))) + bv (mA A 325 (at' + 2))) (by decide) (by omega) ha
    refine (((s0.trans s1).trans s2).trans s3).trans ?_
    rw [fX16_imageWord_L5, if_pos (show (4 : Int32) ≤ nI (3 + 1) by decide)]
    congr 3
    unfold wN
    rw [Nat.add_zero]
    omega
  unfold fX16_imageWord
  rw [← hm] at key
  exact key
theorem f_gA (hR : RW A) {i : Nat} (hi : i < 65535) : gA A 100 (some 325) (nI i) = some (mA A 325 i) := gA_ok (rw_ok325 hR) (by rw [rw_ln325 hR]; omega) (by omega)
theorem f_scan (fu : Nat) (hR : RW A) (hB : ∀ j, isB (mA A 325 j)) (ha : at' + 64 ≤ 65535) (k : Nat → Int32 → Int32 → Mm → Option (Int32 × Mm)) (a1 a2 : Int32) : ∀ m j, j ≤ 48 → 48 < j + m → (∀ j', j' < j → bv (mA A 325 (at' + j')) ≠ 0) → ∃ z, z ≤ 48 ∧ (∀ j', j' < z → bv (mA A 325 (at' + j')) ≠ 0) ∧ (z = 48 ∨ bv (mA A 325 (at' + z)) = 0) ∧ fX16_files_L167 fu k m 323 a1 a2 (nI at') (nI j) A = fX16_files_L192 fu k 323 a1 a2 (nI at') (nI z) A
  | 0, j, h1, h2, _ => absurd h2 (by omega)
  | m + 1, j, h1, h2, h3 => by
    rw [fX16_files_L167]
    by_cases q : 48 ≤ j
    · have : j = 48 := by omega
      subst this
      exact ⟨48, Nat.le_refl _, h3, Or.inl rfl, by rw [if_pos (by decide)]⟩
    · rw [if_neg (show ¬ (48 : Int32) ≤ nI j from nI_ge (b := 48) (by omega) (by decide)), gR_ok (rw_ok323 hR), ob_some, rw_g1026_323 hR, nI_add, f_gA hR (by omega), ob_some]
      have z : mA A 325 (at' + j) = 0 ↔ bv (mA A 325 (at' + j)) = 0 := isB_n (hB (at' + j)) (n := 0) (by decide)
      by_cases y : bv (mA A 325 (at' + j)) = 0
      · exact ⟨j, h1, h3, Or.inr y, by rw [if_pos (z.mpr y)]⟩
      · rw [if_neg (fun e => y (z.mp e)), nI_1]
        refine f_scan fu hR hB ha k a1 a2 m (j + 1) (by omega) (by omega) (fun j' hj => ?_)
        by_cases w : j' = j
        · rw [w]; exact y
        · exact h3 j' (by omega)
def cd (b : Nat → Nat) (z j : Nat) : Prop := (j < z → gd (b j)) ∧ (z ≤ j → b j = 0)
theorem f_codes (fu : Nat) (hR : RW A) (hB : ∀ j, isB (mA A 325 j)) (ha : at' + 64 ≤ 65535) (k : Nat → Int32 → Int32 → Mm → Option (Int32 × Mm)) (a1 a2 : Int32) {z : Nat} (hz : z ≤ 48) : ∀ m j, j ≤ 48 → 48 < j + m → ((∀ j', j ≤ j' → j' < 48 → cd (fun j => bv (mA A 325 (at' + j))) z j') ∧ ∃ m', fX16_files_L220 fu k m 323 a1 a2 (nI at') (nI z) (nI j) A = fX16_files_L220 fu k (m' + 1) 323 a1 a2 (nI at') (nI z) (nI 48) A) ∨ ((¬ ∀ j', j ≤ j' → j' < 48 → cd (fun j => bv (mA A 325 (at' + j))) z j') ∧ fX16_files_L220 fu k m 323 a1 a2 (nI at') (nI z) (nI j) A = some (-1, A))
  | 0, j, h1, h2 => absurd h2 (by omega)
  | m + 1, j, h1, h2 => by
    by_cases q : 48 ≤ j
    · have : j = 48 := by omega
      subst this
      exact Or.inl ⟨fun j' a b => by omega, m, rfl⟩
    · have NO : ¬ cd (fun j => bv (mA A 325 (at' + j))) z j → ¬ ∀ j', j ≤ j' → j' < 48 → cd (fun j => bv (mA A 325 (at' + j))) z j' := fun n y => n (y j (Nat.le_refl _) (by omega))
      have YES : cd (fun j => bv (mA A 325 (at' + j))) z j → ((∀ j', j + 1 ≤ j' → j' < 48 → cd (fun j => bv (mA A 325 (at' + j))) z j') ↔ ∀ j', j ≤ j' → j' < 48 → cd (fun j => bv (mA A 325 (at' + j))) z j') := fun n => ⟨fun y j' b1 b2 => by
        by_cases w : j' = j
        · rw [w]; exact n
        · exact y j' (by omega) b2, fun y j' b1 b2 => y j' (by omega) b2⟩
      have R := f_codes fu hR hB ha k a1 a2 hz m (j + 1) (by omega) (by omega)
      have iB := hB (at' + j)
      rw [fX16_files_L220, if_neg (show ¬ (48 : Int32) ≤ nI j from nI_ge (b := 48) (by omega) (by decide)), gR_ok (rw_ok323 hR), ob_some, rw_g1026_323 hR, nI_add, f_gA hR (by omega), ob_some]
      unfold fX16_files_L269
      rw [nI_1]
      by_cases y : z ≤ j
      · rw [if_pos (nI_le y (by omega))]
        have e0 : mA A 325 (at' + j) = 0 ↔ bv (mA A 325 (at' + j)) = 0 := isB_n iB (n := 0) (by decide)
        by_cases w : bv (mA A 325 (at' + j)) = 0
        · rw [if_pos (e0.mpr w)]
          have c : cd (fun j => bv (mA A 325 (at' + j))) z j := ⟨fun x => by omega, fun _ => w⟩
          rw [← YES c]
          exact R
        · rw [if_neg (fun e => w (e0.mp e))]
          exact Or.inr ⟨NO (fun c => w (c.2 y)), rfl⟩
      · rw [if_neg (nI_ge (by omega) (by omega))]
        by_cases w : gd (bv (mA A 325 (at' + j)))
        · obtain ⟨-, g1, g2⟩ := gd_v iB w
          rw [if_neg g1, if_pos g2]
          have c : cd (fun j => bv (mA A 325 (at' + j))) z j := ⟨fun _ => w, fun x => by omega⟩
          rw [← YES c]
          exact R
        · refine Or.inr ⟨NO (fun c => w (c.1 (by omega))), ?_⟩
          by_cases g1 : mA A 325 (at' + j) < 33
          · rw [if_pos g1]
          · rw [if_neg g1, if_neg (fun g2 => gd_n iB w g1 g2)]
theorem f_words (fu : Nat) (hfu : 5 ≤ fu) (hR : RW A) (hs : mF A 1027 323 = nI im) (hi : im ≤ 65535) (ha : at' + 64 ≤ 65535) (k : Nat → Int32 → Int32 → Mm → Option (Int32 × Mm)) (a1 a2 a4 : Int32) (m : Nat) : (LW (mA A 325) im at' ∧ fX16_files_L220 fu k (m + 1) 323 a1 a2 (nI at') a4 (nI 48) A = fX16_files_L319 fu k fu 323 a1 a2 (nI at') 0 A) ∨ (¬ LW (mA A 325) im at' ∧ fX16_files_L220 fu k (m + 1) 323 a1 a2 (nI at') a4 (nI 48) A = some (-1, A)) := by
  have o := rw_ok323 hR
  have b1 := wN_lt (mA A 325) (at' + 48)
  have b2' := wN_lt (mA A 325) (at' + 52)
  have b3 := wN_lt (mA A 325) (at' + 60)
  obtain ⟨-, -, -, L⟩ := lgc (a := wN (mA A 325) (at' + 48) + wN (mA A 325) (at' + 52)) (b := im) (by omega) (by omega)
  obtain ⟨-, L0, -, -⟩ := lgc (a := wN (mA A 325) (at' + 60)) (b := 0) (by omega) (by omega)
  have L0' : lg_cmp (lN (wN (mA A 325) (at' + 60))) (0 : Int64) = 0 ↔ wN (mA A 325) (at' + 60) = 0 := L0
  rw [fX16_files_L220, if_pos (by decide), rc_ok o, ob_some, show nI at' + (48 : Int32) = nI (at' + 48) from nI_add at' 48, m_word64 fu hfu hR (by omega), b2_some, rc_ok o, ob_some, show nI at' + (52 : Int32) = nI (at' + 52) from nI_add at' 52, m_word64 fu hfu hR (by omega), b2_some, gI_ok o, ob_some, hs, nI_l (by omega), lN_add]
  by_cases c1 : im < wN (mA A 325) (at' + 48) + wN (mA A 325) (at' + 52)
  · rw [if_pos (L.mpr c1)]
    exact Or.inr ⟨fun y => by have := y.1; omega, rfl⟩
  · rw [if_neg (fun e => c1 (L.mp e)), rc_ok o, ob_some, show nI at' + (60 : Int32) = nI (at' + 60) from nI_add at' 60, m_word64 fu hfu hR (by omega), b2_some]
    by_cases c2 : wN (mA A 325) (at' + 60) = 0
    · rw [if_pos (L0'.mpr c2)]
      exact Or.inl ⟨⟨by omega, c2⟩, rfl⟩
    · rw [if_neg (fun e => c2 (L0'.mp e))]
      exact Or.inr ⟨fun y => c2 y.2, rfl⟩
theorem f_same (fu : Nat) (hR : RW A) (hB : ∀ j, isB (mA A 325 j)) {i k : Nat} (hk : 8 + 64 * k + 64 ≤ 65535) (hi : i < k) (k151 : Nat → Int32 → Int32 → Mm → Option (Int32 × Mm)) (k319 : Nat → Int32 → Int32 → Int32 → Int32 → Mm → Option (Int32 × Mm)) (a1 : Int32) : ∀ m j (fl : Int32), j ≤ 48 → 48 < j + m → ((fl = 1 ∧ ∀ j', j' < j → bv (mA A 325 (8 + 64 * i + j')) = bv (mA A 325 (8 + 64 * k + j'))) ∨ (fl = 0 ∧ ¬ SM (mA A 325) i k)) →
    (SM (mA A 325) i k ∧ fX16_files_L331 fu k151 k319 m 323 a1 (nI k) (nI (8 + 64 * k)) (nI i) fl (nI j) A = some (-1, A)) ∨ (¬ SM (mA A 325) i k ∧ fX16_files_L331 fu k151 k319 m 323 a1 (nI k) (nI (8 + 64 * k)) (nI i) fl (nI j) A = k319 323 a1 (nI k) (nI (8 + 64 * k)) (nI (i + 1)) A)
  | 0, j, fl, h1, h2, _ => absurd h2 (by omega)
  | m + 1, j, fl, h1, h2, h3 => by
    have ei : (8 : Int32) + (64 : Int32) * nI i + nI j = nI (8 + 64 * i + j) := by
      rw [show (64 : Int32) * nI i = nI (64 * i) from pk_mul 64 i, show (8 : Int32) + nI (64 * i) = nI (8 + 64 * i) from nI_add 8 _, nI_add]
    rw [fX16_files_L331]
    by_cases q : 48 ≤ j
    · have : j = 48 := by omega
      subst this
      rw [if_pos (by decide)]
      rcases h3 with ⟨rfl, h3⟩ | ⟨rfl, h3⟩
      · rw [if_neg (by decide)]
        exact Or.inl ⟨h3, rfl⟩
      · rw [if_pos rfl, nI_1]
        exact Or.inr ⟨h3, rfl⟩
    · rw [if_neg (show ¬ (48 : Int32) ≤ nI j from nI_ge (b := 48) (by omega) (by decide))]
      unfold fX16_files_L375 fX16_files_L376
      rw [nI_1]
      rcases h3 with ⟨rfl, h3⟩ | ⟨rfl, h3⟩
      · rw [if_neg (by decide), gR_ok (rw_ok323 hR), ob_some, rw_g1026_323 hR, nI_add, f_gA hR (by omega), ob_some, ob_some, ei, f_gA hR (by omega), ob_some]
        have e := isB_inj (hB (8 + 64 * k + j)) (hB (8 + 64 * i + j))
        by_cases y : bv (mA A 325 (8 + 64 * k + j)) = bv (mA A 325 (8 + 64 * i + j))
        · rw [if_pos (e.mpr y)]
          refine f_same fu hR hB hk hi k151 k319 a1 m (j + 1) 1 (by omega) (by omega) (Or.inl ⟨rfl, fun j' hj => ?_⟩)
          by_cases w : j' = j
          · rw [w]; exact y.symm
          · exact h3 j' (by omega)
        · rw [if_neg (fun z => y (e.mp z))]
          exact f_same fu hR hB hk hi k151 k319 a1 m (j + 1) 0 (by omega) (by omega) (Or.inr ⟨rfl, fun s => y (s j (by omega)).symm⟩)
      · rw [if_pos rfl]
        exact f_same fu hR hB hk hi k151 k319 a1 m (j + 1) 0 (by omega) (by omega) (Or.inr ⟨rfl, h3⟩)
theorem f_before (fu : Nat) (hfu : 100 ≤ fu) (hR : RW A) (hB : ∀ j, isB (mA A 325 j)) {k : Nat} (hk : 8 + 64 * k + 64 ≤ 65535) (k151 : Nat → Int32 → Int32 → Mm → Option (Int32 × Mm)) (a1 : Int32) : ∀ m i, i ≤ k → k < i + m → ((¬ ∃ i', i ≤ i' ∧ i' < k ∧ SM (mA A 325) i' k) ∧ fX16_files_L319 fu k151 m 323 a1 (nI k) (nI (8 + 64 * k)) (nI i) A = k151 323 a1 (nI (k + 1)) A) ∨ ((∃ i', i ≤ i' ∧ i' < k ∧ SM (mA A 325) i' k) ∧ fX16_files_L319 fu k151 m 323 a1 (nI k) (nI (8 + 64 * k)) (nI i) A = some (-1, A))
  | 0, i, h1, h2 => absurd h2 (by omega)
  | m + 1, i, h1, h2 => by
    rw [fX16_files_L319]
    by_cases q : k ≤ i
    · rw [if_pos (nI_le q (by omega)), nI_1]
      exact Or.inl ⟨fun ⟨i', a, b, _⟩ => by omega, rfl⟩
    · rw [if_neg (nI_ge (by omega) (by omega))]
      rcases f_same (A := A) fu hR hB hk (i := i) (by omega) k151 (fun b0 b1 b2 b3 b5 M => fX16_files_L319 fu k151 m b0 b1 b2 b3 b5 M) a1 fu 0 1 (by omega) (by omega) (Or.inl ⟨rfl, fun j' hj => by omega⟩) with ⟨s, e⟩ | ⟨s, e⟩
      · exact Or.inr ⟨⟨i, Nat.le_refl _, by omega, s⟩, e⟩
      · have e : fX16_files_L331 fu k151 (fun b0 b1 b2 b3 b5 M => fX16_files_L319 fu k151 m b0 b1 b2 b3 b5 M) fu 323 a1 (nI k) (nI (8 + 64 * k)) (nI i) 1 0 A = fX16_files_L319 fu k151 m 323 a1 (nI k) (nI (8 + 64 * k)) (nI (i + 1)) A := e
        rw [e]
        have eq : (∃ i', i ≤ i' ∧ i' < k ∧ SM (mA A 325) i' k) ↔ ∃ i', i + 1 ≤ i' ∧ i' < k ∧ SM (mA A 325) i' k := ⟨fun ⟨i', a, b, c⟩ => ⟨i', by
          apply Classical.byContradiction
          intro z
          have : i' = i := by omega
          rw [this] at c
          exact s c, b, c⟩, fun ⟨i', a, b, c⟩ => ⟨i', by omega, b, c⟩⟩
        rw [eq]
        exact f_before fu hfu hR hB hk k151 a1 m (i + 1) (by omega) (by omega)
theorem f_entry (fu : Nat) (hfu : 2000 ≤ fu) (hR : RW A) (hB : ∀ j, isB (mA A 325 j)) (hs : mF A 1027 323 = nI im) (hi : im ≤ 65535) {k : Nat} (hk : 8 + 64 * k + 64 ≤ 65535) (k151 : Nat → Int32 → Int32 → Mm → Option (Int32 × Mm)) (a1 : Int32) : (EOK (mA A 325) im k ∧ fX16_files_L167 fu k151 fu 323 a1 (nI k) (nI (8 + 64 * k)) 0 A = k151 323 a1 (nI (k + 1)) A) ∨ (¬ EOK (mA A 325) im k ∧ fX16_files_L167 fu k151 fu 323 a1 (nI k) (nI (8 + 64 * k)) 0 A = some (-1, A)) := by
  obtain ⟨z, z1, z2, z3, z4⟩ := f_scan fu hR hB (at' := 8 + 64 * k) hk k151 a1 (nI k) fu 0 (by omega) (by omega) (fun j' hj => by omega)
  have z4 : fX16_files_L167 fu k151 fu 323 a1 (nI k) (nI (8 + 64 * k)) 0 A = fX16_files_L192 fu k151 323 a1 (nI k) (nI (8 + 64 * k)) (nI z) A := z4
  rw [z4]
  unfold fX16_files_L192
  -- a right name ends where the scan ends
  have only : NM (fun j => bv (mA A 325 (8 + 64 * k + j))) → (∃ y, 1 ≤ y ∧ y ≤ 47 ∧ z = y) := fun ⟨_, y, y1, y2, y3, y4⟩ => by
    refine ⟨y, y1, y2, ?_⟩
    have a1 : ¬ y < z := fun q => z2 y q (y4 y (Nat.le_refl _) (by omega))
    have a2 : ¬ z < y := fun q => by
      have g := y3 z q
      rcases z3 with e | e
      · omega
      · have e : bv (mA A 325 (8 + 64 * k + z)) = 0 := e
        have g : gd (bv (mA A 325 (8 + 64 * k + z))) := g
        unfold gd at g
        omega
    omega
  by_cases c1 : z = 0
  · rw [c1, if_pos nI_0]
    exact Or.inr ⟨fun e => by obtain ⟨y, y1, y2, y3⟩ := only e.1; omega, rfl⟩
  by_cases c2 : z = 48
  · rw [c2, if_neg (by decide), if_pos (show nI 48 = 48 from rfl)]
    exact Or.inr ⟨fun e => by obtain ⟨y, y1, y2, y3⟩ := only e.1; omega, rfl⟩
  rw [if_neg (nI_ne0 (by omega) (by omega)), if_neg (show ¬ nI z = 48 from fun e => c2 ((nI_eq (b := 48) (by omega) (by decide)).mp e)), gR_ok (rw_ok323 hR), ob_some, rw_g1026_323 hR, f_gA hR (by omega), ob_some]
  have e47 : mA A 325 (8 + 64 * k) = 47 ↔ bv (mA A 325 (8 + 64 * k)) = 47 := isB_n (hB (8 + 64 * k)) (n := 47) (by decide)
  by_cases c3n : ¬ bv (mA A 325 (8 + 64 * k)) = 47
  · rw [if_neg (fun e => c3n (e47.mp e))]
    exact Or.inr ⟨fun y => c3n y.1.1, rfl⟩
  have c3 := Classical.not_not.mp c3n
  rw [if_pos (show mA A 325 (8 + 64 * k) = 47 from e47.mpr c3)]
  have nmz : NM (fun j => bv (mA A 325 (8 + 64 * k + j))) ↔ ∀ j', 0 ≤ j' → j' < 48 → cd (fun j => bv (mA A 325 (8 + 64 * k + j))) z j' := by
    constructor
    · intro y
      obtain ⟨y0, y1, y2, y3⟩ := only y
      obtain ⟨-, w, w1, w2, w3, w4⟩ := y
      have : w = z := by
        have a1 : ¬ w < z := fun q => z2 w q (w4 w (Nat.le_refl _) (by omega))
        have a2 : ¬ z < w := fun q => by
          have g : gd (bv (mA A 325 (8 + 64 * k + z))) := w3 z q
          rcases z3 with e | e
          · omega
          · unfold gd at g
            omega
        omega
      subst this
      exact fun j' _ b => ⟨fun q => w3 j' q, fun q => w4 j' q b⟩
    · intro y
      exact ⟨c3, z, by omega, by omega, fun j hj => (y j (Nat.zero_le _) (by omega)).1 hj, fun j h1 h2 => (y j (Nat.zero_le _) h2).2 h1⟩
  rcases f_codes fu hR hB (at' := 8 + 64 * k) hk k151 a1 (nI k) (z := z) z1 fu 0 (by omega) (by omega) with ⟨d1, m', d2⟩ | ⟨d1, d2⟩
  · have d2 : fX16_files_L220 fu k151 fu 323 a1 (nI k) (nI (8 + 64 * k)) (nI z) 0 A = fX16_files_L220 fu k151 (m' + 1) 323 a1 (nI k) (nI (8 + 64 * k)) (nI z) (nI 48) A := d2
    rw [d2]
    rcases f_words fu (by omega) hR hs hi (at' := 8 + 64 * k) hk k151 a1 (nI k) (nI z) m' with ⟨f1, f2⟩ | ⟨f1, f2⟩
    · rw [f2]
      rcases f_before fu (by omega) hR hB hk k151 a1 fu 0 (by omega) (by omega) with ⟨g1, g2⟩ | ⟨g1, g2⟩
      · exact Or.inl ⟨⟨nmz.mpr d1, f1, fun ⟨i, i1, i2⟩ => g1 ⟨i, Nat.zero_le _, i1, i2⟩⟩, g2⟩
      · obtain ⟨i, -, i1, i2⟩ := g1
        exact Or.inr ⟨fun y => y.2.2 ⟨i, i1, i2⟩, g2⟩
    · rw [f2]
      exact Or.inr ⟨fun y => f1 y.2.1, rfl⟩
  · have d2 : fX16_files_L220 fu k151 fu 323 a1 (nI k) (nI (8 + 64 * k)) (nI z) 0 A = some (-1, A) := d2
    rw [d2]
    exact Or.inr ⟨fun y => d1 (nmz.mp y.1), rfl⟩
theorem f_loop (fu : Nat) (hfu : 2000 ≤ fu) (hR : RW A) (hB : ∀ j, isB (mA A 325 j)) (hs : mF A 1027 323 = nI im) (hi : im ≤ 65535) {F : Nat} (hF : F ≤ 64) : ∀ m k, k ≤ F → F < k + m → ((∀ k', k ≤ k' → k' < F → EOK (mA A 325) im k') ∧ fX16_files_L151 fu m 323 (nI F) (nI k) A = some (nI F, A)) ∨ ((¬ ∀ k', k ≤ k' → k' < F → EOK (mA A 325) im k') ∧ fX16_files_L151 fu m 323 (nI F) (nI k) A = some (-1, A))
  | 0, k, h1, h2 => absurd h2 (by omega)
  | m + 1, k, h1, h2 => by
    have ek : (8 : Int32) + (64 : Int32) * nI k = nI (8 + 64 * k) := by
      rw [show (64 : Int32) * nI k = nI (64 * k) from pk_mul 64 k]
      exact nI_add 8 (64 * k)
    rw [fX16_files_L151]
    by_cases q : F ≤ k
    · rw [if_pos (nI_le q (by omega))]
      exact Or.inl ⟨fun k' a b => by omega, rfl⟩
    · rw [if_neg (nI_ge (by omega) (by omega)), ek]
      rcases f_entry fu hfu hR hB hs hi (k := k) (by omega) (fun b0 b1 b2 M => fX16_files_L151 fu m b0 b1 b2 M) (nI F) with ⟨s, e⟩ | ⟨s, e⟩
      · rw [e]
        have eq : (∀ k', k ≤ k' → k' < F → EOK (mA A 325) im k') ↔ ∀ k', k + 1 ≤ k' → k' < F → EOK (mA A 325) im k' := ⟨fun y k' a b => y k' (by omega) b, fun y k' a b => by
          by_cases w : k' = k
          · rw [w]; exact s
          · exact y k' (by omega) b⟩
        rw [eq]
        exact f_loop fu hfu hR hB hs hi hF m (k + 1) (by omega) (by omega)
      · rw [e]
        exact Or.inr ⟨fun y => s (y k (Nat.le_refl _) (by omega)), rfl⟩
theorem m_files (fu : Nat) (hfu : 70000 ≤ fu) (hR : RW A) (hB : ∀ j, isB (mA A 325 j)) (hs : mF A 1027 323 = nI im) (hi : im ≤ 65535) : (∃ F, ALL (mA A 325) im F ∧ fX16_files fu 323 A = some (nI F, A)) ∨ ((∀ F, ¬ ALL (mA A 325) im F) ∧ fX16_files fu 323 A = some (-1, A)) := by
  have o := rw_ok323 hR
  have g := fun (i : Nat) (h : i < 65535) => f_gA hR h
  have b0 := bv_lt (mA A 325 0)
  have b1 := bv_lt (mA A 325 1)
  have b2' := bv_lt (mA A 325 2)
  have b3 := bv_lt (mA A 325 3)
  have b4' := bv_lt (mA A 325 4)
  have b5 := bv_lt (mA A 325 5)
  have b6 := bv_lt (mA A 325 6)
  have b7 := bv_lt (mA A 325 7)
  have w0 : wN (mA A 325) 0 = 16777216 * bv (mA A 325 0) + 65536 * bv (mA A 325 1) + 256 * bv (mA A 325 2) + bv (mA A 325 3) := rfl
  have g0 : gA A 100 (some 325) (0 : Int32) = some (mA A 325 0) := g 0 (by decide)
  have g1 : gA A 100 (some 325) (1 : Int32) = some (mA A 325 1) := g 1 (by decide)
  have g2 : gA A 100 (some 325) (2 : Int32) = some (mA A 325 2) := g 2 (by decide)
  have g3 : gA A 100 (some 325) (3 : Int32) = some (mA A 325 3) := g 3 (by decide)
  have g4 : gA A 100 (some 325) (4 : Int32) = some (mA A 325 4) := g 4 (by decide)
  have g5 : gA A 100 (some 325) (5 : Int32) = some (mA A 325 5) := g 5 (by decide)
  have g6 : gA A 100 (some 325) (6 : Int32) = some (mA A 325 6) := g 6 (by decide)
  have g7 : gA A 100 (some 325) (7 : Int32) = some (mA A 325 7) := g 7 (by decide)
  unfold fX16_files
  rw [gI_ok o, ob_some, hs]
  by_cases c0 : im < 12
  · rw [if_pos (show nI im < 12 from nI_lt (b := 12) c0 (by decide))]
    exact Or.inr ⟨fun F y => by have := y.2.1; omega, rfl⟩
  rw [if_neg (show ¬ nI im < 12 from nI_nlt (b := 12) (by omega) (by omega)), gR_ok o, ob_some, rw_g1026_323 hR, g0, ob_some]
  have s0 : mA A 325 0 = 83 ↔ bv (mA A 325 0) = 83 := isB_n (hB 0) (n := 83) (by decide)
  have s1 : mA A 325 1 = 84 ↔ bv (mA A 325 1) = 84 := isB_n (hB 1) (n := 84) (by decide)
  have s2 : mA A 325 2 = 79 ↔ bv (mA A 325 2) = 79 := isB_n (hB 2) (n := 79) (by decide)
  have s3 : mA A 325 3 = 82 ↔ bv (mA A 325 3) = 82 := isB_n (hB 3) (n := 82) (by decide)
  have s6 : mA A 325 6 = 0 ↔ bv (mA A 325 6) = 0 := isB_n (hB 6) (n := 0) (by decide)
  have s7 : mA A 325 7 = 0 ↔ bv (mA A 325 7) = 0 := isB_n (hB 7) (n := 0) (by decide)
  by_cases c1n : ¬ mA A 325 0 = 83
  · rw [if_neg c1n]
    have z := fun e => c1n (s0.mpr e)
    exact Or.inr ⟨fun F y => z (by have := y.2.2.1; have := y.2.2.2.1; omega), rfl⟩
  have c1 := Classical.not_not.mp c1n
  rw [if_pos c1, ob_some, g1, ob_some]
  by_cases c2n : ¬ mA A 325 1 = 84
  · rw [if_neg c2n]
    have z := fun e => c2n (s1.mpr e)
    exact Or.inr ⟨fun F y => z (by have := y.2.2.1; have := y.2.2.2.1; omega), rfl⟩
  have c2 := Classical.not_not.mp c2n
  rw [if_pos c2, ob_some, g2, ob_some]
  by_cases c3n : ¬ mA A 325 2 = 79
  · rw [if_neg c3n]
    have z := fun e => c3n (s2.mpr e)
    exact Or.inr ⟨fun F y => z (by have := y.2.2.1; have := y.2.2.2.1; omega), rfl⟩
  have c3 := Classical.not_not.mp c3n
  rw [if_pos c3, ob_some, g3, ob_some]
  by_cases c4n : ¬ mA A 325 3 = 82
  · rw [if_neg c4n]
    have z := fun e => c4n (s3.mpr e)
    exact Or.inr ⟨fun F y => z (by have := y.2.2.1; have := y.2.2.2.1; omega), rfl⟩
  have c4 := Classical.not_not.mp c4n
  rw [if_pos c4, ob_some, g6, ob_some]
  by_cases c5n : ¬ mA A 325 6 = 0
  · rw [if_neg c5n]
    have z := fun e => c5n (s6.mpr e)
    exact Or.inr ⟨fun F y => z (by have := y.2.2.1; have := y.2.2.2.1; omega), rfl⟩
  have c5 := Classical.not_not.mp c5n
  rw [if_pos c5, ob_some, g7, ob_some]
  by_cases c6n : ¬ mA A 325 7 = 0
  · rw [if_neg c6n]
    have z := fun e => c6n (s7.mpr e)
    exact Or.inr ⟨fun F y => z (by have := y.2.2.1; have := y.2.2.2.1; omega), rfl⟩
  have c6 := Classical.not_not.mp c6n
  rw [if_pos c6, ob_some, g4, ob_some, ob_some, g5, ob_some]
  have eh : ((mA A 325 4 &&& (255 : Int32)) <<< ((8 : Int32) &&& 31)) ||| (mA A 325 5 &&& (255 : Int32)) = nI (256 * bv (mA A 325 4) + bv (mA A 325 5)) := h2_nI (mA A 325) 4
  rw [eh, ob_some]
  generalize hF : 256 * bv (mA A 325 4) + bv (mA A 325 5) = F
  have d1 := s0.mp c1
  have d2 := s1.mp c2
  have d3 := s2.mp c3
  have d4 := s3.mp c4
  have d5 := s6.mp c5
  have d6 := s7.mp c6
  by_cases c7 : 64 < F
  · rw [if_pos (show (64 : Int32) < nI F from nI_lt (a := 64) c7 (by omega))]
    exact Or.inr ⟨fun G y => by have := y.1; have := y.2.2.2.2.1; omega, rfl⟩
  rw [if_neg (show ¬ (64 : Int32) < nI F from nI_nlt (a := 64) (by omega) (by decide)), ob_some, show (64 : Int32) * nI F = nI (64 * F) from pk_mul 64 F, show (12 : Int32) + nI (64 * F) = nI (12 + 64 * F) from nI_add 12 _]
  by_cases c8 : im < 12 + 64 * F
  · rw [if_pos (nI_lt c8 (by omega))]
    exact Or.inr ⟨fun G y => by have := y.2.1; have := y.2.2.2.2.1; omega, rfl⟩
  have ck : fX16_check fu 323 (0 : Int32) (nI (8 + 64 * F)) A = some (crB (mA A 325) 0 (8 + 64 * F) ^^^ (-1 : Int32), A) := m_check fu hfu hR (p := 0) (q := 8 + 64 * F) (by omega) (by omega)
  rw [if_neg (nI_nlt (by omega) (by omega)), rc_ok o, ob_some, show (8 : Int32) + nI (64 * F) = nI (8 + 64 * F) from nI_add 8 _, ck, b2_some, rc_ok o, ob_some, m_word64 fu (by omega) hR (by omega), b2_some, lN_i]
  by_cases c9 : crB (mA A 325) 0 (8 + 64 * F) ^^^ (-1 : Int32) = nI (wN (mA A 325) (8 + 64 * F))
  · rw [if_pos c9]
    rcases f_loop fu (by omega) hR hB hs hi (F := F) (by omega) fu 0 (by omega) (by omega) with ⟨e1, e2⟩ | ⟨e1, e2⟩
    · exact Or.inl ⟨F, ⟨by omega, by omega, by omega, by omega, hF, c9, fun k hk => e1 k (Nat.zero_le _) hk⟩, e2⟩
    · refine Or.inr ⟨fun G y => e1 (fun k' _ k2 => ?_), e2⟩
      have gF : G = F := by have := y.2.2.2.2.1; omega
      rw [gF] at y
      exact y.2.2.2.2.2.2 k' k2
  · rw [if_neg c9]
    refine Or.inr ⟨fun G y => ?_, rfl⟩
    have gF : G = F := by have := y.2.2.2.2.1; omega
    rw [gF] at y
    exact c9 y.2.2.2.2.2.1
end Files
