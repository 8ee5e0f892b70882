/-! ===== what is made at the start, printed by a program of ours ===== -/
theorem hX0_init (fu : Nat) {out : Mm}   (a0 : Nat)  (M : Mm) (hB : HI M) (h : fX0_init fu  a0 M = some out) : HI out := by
  unfold fX0_init at h
  obtain ⟨v1, M2, eM2, h⟩ := b2d h
  have hB := h_mkA hB eM2
  obtain ⟨M3, eM3, h⟩ := bd h
  have hB := h_pG hB (by decide) eM3
  obtain ⟨v4, M5, eM5, h⟩ := b2d h
  have hB := h_mkA hB eM5
  obtain ⟨M6, eM6, h⟩ := bd h
  have hB := h_pG hB (by decide) eM6
  obtain rfl := Option.some.inj h
  exact hB
theorem hX5_init (fu : Nat) {out : Mm}   (a0 : Nat)  (M : Mm) (hB : HI M) (h : fX5_init fu  a0 M = some out) : HI out := by
  unfold fX5_init at h
  obtain rfl := Option.some.inj h
  exact hB
theorem hX1_init (fu : Nat) {out : Mm}   (a0 : Nat)  (M : Mm) (hB : HI M) (h : fX1_init fu  a0 M = some out) : HI out := by
  unfold fX1_init at h
  obtain ⟨v1, M2, eM2, h⟩ := b2d h
  have hB := h_mkA hB eM2
  obtain ⟨M3, eM3, h⟩ := bd h
  have hB := h_pG hB (by decide) eM3
  obtain ⟨v4, M5, eM5, h⟩ := b2d h
  have hB := h_mkO hB eM5
  obtain ⟨M6, eM6, h⟩ := bd h
  have hB := hX0_init fu v4  M5 hB eM6
  obtain ⟨M7, eM7, h⟩ := bd h
  have hB := h_pG hB (by decide) eM7
  obtain ⟨v8, M9, eM9, h⟩ := b2d h
  have hB := h_mkO hB eM9
  obtain ⟨M10, eM10, h⟩ := bd h
  have hB := hX5_init fu v8  M9 hB eM10
  obtain ⟨M11, eM11, h⟩ := bd h
  have hB := h_pG hB (by decide) eM11
  obtain rfl := Option.some.inj h
  exact hB
theorem hX2_init (fu : Nat) {out : Mm}   (a0 : Nat)  (M : Mm) (hB : HI M) (h : fX2_init fu  a0 M = some out) : HI out := by
  unfold fX2_init at h
  obtain ⟨v1, M2, eM2, h⟩ := b2d h
  have hB := h_mkA hB eM2
  obtain ⟨M3, eM3, h⟩ := bd h
  have hB := h_pG hB (by decide) eM3
  obtain ⟨v4, M5, eM5, h⟩ := b2d h
  have hB := h_mkA hB eM5
  obtain ⟨M6, eM6, h⟩ := bd h
  have hB := h_pG hB (by decide) eM6
  obtain rfl := Option.some.inj h
  exact hB
theorem hX3_init (fu : Nat) {out : Mm}   (a0 : Nat) (a1 : Option Nat) (a2 : Option Nat)  (M : Mm) (hB : HI M) (h : fX3_init fu  a0 a1 a2 M = some out) : HI out := by
  unfold fX3_init at h
  obtain ⟨M1, eM1, h⟩ := bd h
  have hB := h_pG hB (by decide) eM1
  obtain ⟨M2, eM2, h⟩ := bd h
  have hB := h_pG hB (by decide) eM2
  obtain ⟨v3, M4, eM4, h⟩ := b2d h
  have hB := h_mkA hB eM4
  obtain ⟨M5, eM5, h⟩ := bd h
  have hB := h_pG hB (by decide) eM5
  obtain ⟨v6, M7, eM7, h⟩ := b2d h
  have hB := h_mkA hB eM7
  obtain ⟨M8, eM8, h⟩ := bd h
  have hB := h_pG hB (by decide) eM8
  obtain rfl := Option.some.inj h
  exact hB
theorem hX6_init (fu : Nat) {out : Mm}   (a0 : Nat)  (M : Mm) (hB : HI M) (h : fX6_init fu  a0 M = some out) : HI out := by
  unfold fX6_init at h
  obtain ⟨v1, M2, eM2, h⟩ := b2d h
  have hB := h_mkA hB eM2
  obtain ⟨M3, eM3, h⟩ := bd h
  have hB := h_pG hB (by decide) eM3
  obtain rfl := Option.some.inj h
  exact hB
theorem hX4_init (fu : Nat) {out : Mm}   (a0 : Nat) (a1 : Option Nat)  (M : Mm) (hB : HI M) (h : fX4_init fu  a0 a1 M = some out) : HI out := by
  unfold fX4_init at h
  obtain ⟨M1, eM1, h⟩ := bd h
  have hB := h_pG hB (by decide) eM1
  obtain ⟨v2, M3, eM3, h⟩ := b2d h
  have hB := h_mkA hB eM3
  obtain ⟨M4, eM4, h⟩ := bd h
  have hB := h_pG hB (by decide) eM4
  obtain ⟨v5, M6, eM6, h⟩ := b2d h
  have hB := h_mkA hB eM6
  obtain ⟨M7, eM7, h⟩ := bd h
  have hB := h_pG hB (by decide) eM7
  obtain ⟨v8, M9, eM9, h⟩ := b2d h
  have hB := h_mkA hB eM9
  obtain ⟨M10, eM10, h⟩ := bd h
  have hB := h_pG hB (by decide) eM10
  obtain ⟨v11, M12, eM12, h⟩ := b2d h
  have hB := h_mkA hB eM12
  obtain ⟨M13, eM13, h⟩ := bd h
  have hB := h_pG hB (by decide) eM13
  obtain ⟨v14, M15, eM15, h⟩ := b2d h
  have hB := h_mkA hB eM15
  obtain ⟨M16, eM16, h⟩ := bd h
  have hB := h_pG hB (by decide) eM16
  obtain ⟨v17, M18, eM18, h⟩ := b2d h
  have hB := h_mkA hB eM18
  obtain ⟨M19, eM19, h⟩ := bd h
  have hB := h_pG hB (by decide) eM19
  obtain rfl := Option.some.inj h
  exact hB
theorem hX7_init (fu : Nat) {out : Mm}   (a0 : Nat) (a1 : Option Nat) (a2 : Option Nat)  (M : Mm) (hB : HI M) (h : fX7_init fu  a0 a1 a2 M = some out) : HI out := by
  unfold fX7_init at h
  obtain ⟨M1, eM1, h⟩ := bd h
  have hB := h_pG hB (by decide) eM1
  obtain ⟨M2, eM2, h⟩ := bd h
  have hB := h_pG hB (by decide) eM2
  obtain ⟨v3, M4, eM4, h⟩ := b2d h
  have hB := h_mkA hB eM4
  obtain ⟨M5, eM5, h⟩ := bd h
  have hB := h_pG hB (by decide) eM5
  obtain ⟨v6, M7, eM7, h⟩ := b2d h
  have hB := h_mkA hB eM7
  obtain ⟨M8, eM8, h⟩ := bd h
  have hB := h_pG hB (by decide) eM8
  obtain rfl := Option.some.inj h
  exact hB
theorem hX8_init (fu : Nat) {out : Mm}   (a0 : Nat)  (M : Mm) (hB : HI M) (h : fX8_init fu  a0 M = some out) : HI out := by
  unfold fX8_init at h
  obtain ⟨v1, M2, eM2, h⟩ := b2d h
  have hB := h_mkA hB eM2
  obtain ⟨M3, eM3, h⟩ := bd h
  have hB := h_pG hB (by decide) eM3
  obtain ⟨v4, M5, eM5, h⟩ := b2d h
  have hB := h_mkA hB eM5
  obtain ⟨M6, eM6, h⟩ := bd h
  have hB := h_pG hB (by decide) eM6
  obtain rfl := Option.some.inj h
  exact hB
theorem hX9_init (fu : Nat) {out : Mm}   (a0 : Nat) (a1 : Option Nat) (a2 : Option Nat) (a3 : Option Nat) (a4 : Option Nat)  (M : Mm) (hB : HI M) (h : fX9_init fu  a0 a1 a2 a3 a4 M = some out) : HI out := by
  unfold fX9_init at h
  obtain ⟨M1, eM1, h⟩ := bd h
  have hB := h_pG hB (by decide) eM1
  obtain ⟨M2, eM2, h⟩ := bd h
  have hB := h_pG hB (by decide) eM2
  obtain ⟨M3, eM3, h⟩ := bd h
  have hB := h_pG hB (by decide) eM3
  obtain ⟨M4, eM4, h⟩ := bd h
  have hB := h_pG hB (by decide) eM4
  obtain ⟨v5, M6, eM6, h⟩ := b2d h
  have hB := h_mkA hB eM6
  obtain ⟨M7, eM7, h⟩ := bd h
  have hB := h_pG hB (by decide) eM7
  obtain rfl := Option.some.inj h
  exact hB
theorem hX10_init (fu : Nat) {out : Mm}   (a0 : Nat)  (M : Mm) (hB : HI M) (h : fX10_init fu  a0 M = some out) : HI out := by
  unfold fX10_init at h
  obtain ⟨v1, M2, eM2, h⟩ := b2d h
  have hB := h_mkA hB eM2
  obtain ⟨M3, eM3, h⟩ := bd h
  have hB := h_pG hB (by decide) eM3
  obtain ⟨v4, M5, eM5, h⟩ := b2d h
  have hB := h_mkA hB eM5
  obtain ⟨M6, eM6, h⟩ := bd h
  have hB := h_pG hB (by decide) eM6
  obtain rfl := Option.some.inj h
  exact hB
theorem hX11_init (fu : Nat) {out : Mm}   (a0 : Nat)  (M : Mm) (hB : HI M) (h : fX11_init fu  a0 M = some out) : HI out := by
  unfold fX11_init at h
  obtain ⟨v1, M2, eM2, h⟩ := b2d h
  have hB := h_mkO hB eM2
  obtain ⟨M3, eM3, h⟩ := bd h
  have hB := hX8_init fu v1  M2 hB eM3
  obtain ⟨M4, eM4, h⟩ := bd h
  have hB := h_pG hB (by decide) eM4
  obtain ⟨v5, M6, eM6, h⟩ := b2d h
  have hB := h_mkO hB eM6
  obtain ⟨M7, eM7, h⟩ := bd h
  have hB := hX10_init fu v5  M6 hB eM7
  obtain ⟨M8, eM8, h⟩ := bd h
  have hB := h_pG hB (by decide) eM8
  obtain ⟨v9, M10, eM10, h⟩ := b2d h
  have hB := h_mkO hB eM10
  obtain ⟨v11, ev11, h⟩ := bd h
  obtain ⟨M12, eM12, h⟩ := bd h
  have hB := hX4_init fu v9 v11 M10 hB eM12
  obtain ⟨M13, eM13, h⟩ := bd h
  have hB := h_pG hB (by decide) eM13
  obtain ⟨v14, M15, eM15, h⟩ := b2d h
  have hB := h_mkO hB eM15
  obtain ⟨v16, ev16, h⟩ := bd h
  obtain ⟨v17, ev17, h⟩ := bd h
  obtain ⟨M18, eM18, h⟩ := bd h
  have hB := hX3_init fu v14 v16 v17 M15 hB eM18
  obtain ⟨M19, eM19, h⟩ := bd h
  have hB := h_pG hB (by decide) eM19
  obtain ⟨v20, M21, eM21, h⟩ := b2d h
  have hB := h_mkO hB eM21
  obtain ⟨v22, ev22, h⟩ := bd h
  obtain ⟨v23, ev23, h⟩ := bd h
  obtain ⟨v24, ev24, h⟩ := bd h
  obtain ⟨v25, ev25, h⟩ := bd h
  obtain ⟨M26, eM26, h⟩ := bd h
  have hB := hX9_init fu v20 v22 v23 v24 v25 M21 hB eM26
  obtain ⟨M27, eM27, h⟩ := bd h
  have hB := h_pG hB (by decide) eM27
  obtain ⟨v28, M29, eM29, h⟩ := b2d h
  have hB := h_mkO hB eM29
  obtain ⟨v30, ev30, h⟩ := bd h
  obtain ⟨v31, ev31, h⟩ := bd h
  obtain ⟨M32, eM32, h⟩ := bd h
  have hB := hX7_init fu v28 v30 v31 M29 hB eM32
  obtain ⟨M33, eM33, h⟩ := bd h
  have hB := h_pG hB (by decide) eM33
  obtain ⟨v34, M35, eM35, h⟩ := b2d h
  have hB := h_mkA hB eM35
  obtain ⟨M36, eM36, h⟩ := bd h
  have hB := h_pG hB (by decide) eM36
  obtain rfl := Option.some.inj h
  exact hB
theorem hX12_init (fu : Nat) {out : Mm}   (a0 : Nat)  (M : Mm) (hB : HI M) (h : fX12_init fu  a0 M = some out) : HI out := by
  unfold fX12_init at h
  obtain ⟨v1, M2, eM2, h⟩ := b2d h
  have hB := h_mkA hB eM2
  obtain ⟨M3, eM3, h⟩ := bd h
  have hB := h_pG hB (by decide) eM3
  obtain ⟨v4, M5, eM5, h⟩ := b2d h
  have hB := h_mkA hB eM5
  obtain ⟨M6, eM6, h⟩ := bd h
  have hB := h_pG hB (by decide) eM6
  obtain ⟨v7, M8, eM8, h⟩ := b2d h
  have hB := h_mkA hB eM8
  obtain ⟨M9, eM9, h⟩ := bd h
  have hB := h_pG hB (by decide) eM9
  obtain rfl := Option.some.inj h
  exact hB
theorem hX13_init (fu : Nat) {out : Mm}   (a0 : Nat)  (M : Mm) (hB : HI M) (h : fX13_init fu  a0 M = some out) : HI out := by
  unfold fX13_init at h
  obtain ⟨v1, M2, eM2, h⟩ := b2d h
  have hB := h_mkA hB eM2
  obtain ⟨M3, eM3, h⟩ := bd h
  have hB := h_pG hB (by decide) eM3
  obtain ⟨v4, M5, eM5, h⟩ := b2d h
  have hB := h_mkA hB eM5
  obtain ⟨M6, eM6, h⟩ := bd h
  have hB := h_pG hB (by decide) eM6
  obtain rfl := Option.some.inj h
  exact hB
theorem hX14_init (fu : Nat) {out : Mm}   (a0 : Nat)  (M : Mm) (hB : HI M) (h : fX14_init fu  a0 M = some out) : HI out := by
  unfold fX14_init at h
  obtain rfl := Option.some.inj h
  exact hB
theorem hX15_init (fu : Nat) {out : Mm}   (a0 : Nat)  (M : Mm) (hB : HI M) (h : fX15_init fu  a0 M = some out) : HI out := by
  unfold fX15_init at h
  obtain ⟨v1, M2, eM2, h⟩ := b2d h
  have hB := h_mkA hB eM2
  obtain ⟨M3, eM3, h⟩ := bd h
  have hB := h_pG hB (by decide) eM3
  obtain rfl := Option.some.inj h
  exact hB
theorem hX16_init_L239 (fu : Nat) {out : Mm}   : ∀ (n : Nat) (a0 : Nat) (a1 : Int32)  (M : Mm), HI M → fX16_init_L239 fu  n a0 a1 M = some out → HI out := by
  intro n
  induction n with
  | zero =>
    intro a0 a1 M hB h
    have h : (none : Option (Mm)) = some out := h
    cases h
  | succ n ih =>
    intro a0 a1 M hB h
    rw [fX16_init_L239] at h
    by_cases hc : (4 : Int32) ≤ a1
    · have h := (if_pos hc).symm.trans h
      obtain rfl := Option.some.inj h
      exact hB
    · have h := (if_neg hc).symm.trans h
      obtain ⟨v1, ev1, h⟩ := bd h
      obtain ⟨v2, M3, eM3, h⟩ := b2d h
      have hB := h_mkO hB eM3
      obtain ⟨M4, eM4, h⟩ := bd h
      have hB := hX13_init fu v2  M3 hB eM4
      obtain ⟨M5, eM5, h⟩ := bd h
      have hB := h_pB hB eM5
      exact ih a0 (a1 + (1 : Int32)) M5 hB h
theorem hX16_init_L212 (fu : Nat) {out : Mm}   : ∀ (n : Nat) (a0 : Nat) (a1 : Int32)  (M : Mm), HI M → fX16_init_L212 fu  n a0 a1 M = some out → HI out := by
  intro n
  induction n with
  | zero =>
    intro a0 a1 M hB h
    have h : (none : Option (Mm)) = some out := h
    cases h
  | succ n ih =>
    intro a0 a1 M hB h
    rw [fX16_init_L212] at h
    by_cases hc : (8 : Int32) ≤ a1
    · have h := (if_pos hc).symm.trans h
      exact hX16_init_L239 fu   fu a0 (0 : Int32) M hB h
    · have h := (if_neg hc).symm.trans h
      obtain ⟨v1, ev1, h⟩ := bd h
      obtain ⟨v2, M3, eM3, h⟩ := b2d h
      have hB := h_mkO hB eM3
      obtain ⟨M4, eM4, h⟩ := bd h
      have hB := hX15_init fu v2  M3 hB eM4
      obtain ⟨M5, eM5, h⟩ := bd h
      have hB := h_pB hB eM5
      exact ih a0 (a1 + (1 : Int32)) M5 hB h
theorem hX16_init_L185 (fu : Nat) {out : Mm}   : ∀ (n : Nat) (a0 : Nat) (a1 : Int32)  (M : Mm), HI M → fX16_init_L185 fu  n a0 a1 M = some out → HI out := by
  intro n
  induction n with
  | zero =>
    intro a0 a1 M hB h
    have h : (none : Option (Mm)) = some out := h
    cases h
  | succ n ih =>
    intro a0 a1 M hB h
    rw [fX16_init_L185] at h
    by_cases hc : (16 : Int32) ≤ a1
    · have h := (if_pos hc).symm.trans h
      exact hX16_init_L212 fu   fu a0 (0 : Int32) M hB h
    · have h := (if_neg hc).symm.trans h
      obtain ⟨v1, ev1, h⟩ := bd h
      obtain ⟨v2, M3, eM3, h⟩ := b2d h
      have hB := h_mkO hB eM3
      obtain ⟨M4, eM4, h⟩ := bd h
      have hB := hX14_init fu v2  M3 hB eM4
      obtain ⟨M5, eM5, h⟩ := bd h
      have hB := h_pB hB eM5
      exact ih a0 (a1 + (1 : Int32)) M5 hB h
theorem hX16_init_L158 (fu : Nat) {out : Mm}   : ∀ (n : Nat) (a0 : Nat) (a1 : Int32)  (M : Mm), HI M → fX16_init_L158 fu  n a0 a1 M = some out → HI out := by
  intro n
  induction n with
  | zero =>
    intro a0 a1 M hB h
    have h : (none : Option (Mm)) = some out := h
    cases h
  | succ n ih =>
    intro a0 a1 M hB h
    rw [fX16_init_L158] at h
    by_cases hc : (16 : Int32) ≤ a1
    · have h := (if_pos hc).symm.trans h
      exact hX16_init_L185 fu   fu a0 (0 : Int32) M hB h
    · have h := (if_neg hc).symm.trans h
      obtain ⟨v1, ev1, h⟩ := bd h
      obtain ⟨v2, M3, eM3, h⟩ := b2d h
      have hB := h_mkO hB eM3
      obtain ⟨M4, eM4, h⟩ := bd h
      have hB := hX12_init fu v2  M3 hB eM4
      obtain ⟨M5, eM5, h⟩ := bd h
      have hB := h_pB hB eM5
      exact ih a0 (a1 + (1 : Int32)) M5 hB h
theorem hX16_init (fu : Nat) {out : Mm}   (a0 : Nat)  (M : Mm) (hB : HI M) (h : fX16_init fu  a0 M = some out) : HI out := by
  unfold fX16_init at h
  obtain ⟨v1, M2, eM2, h⟩ := b2d h
  have hB := h_mkA hB eM2
  obtain ⟨M3, eM3, h⟩ := bd h
  have hB := h_pG hB (by decide) eM3
  obtain ⟨v4, M5, eM5, h⟩ := b2d h
  have hB := h_mkA hB eM5
  obtain ⟨M6, eM6, h⟩ := bd h
  have hB := h_pG hB (by decide) eM6
  obtain ⟨v7, M8, eM8, h⟩ := b2d h
  have hB := h_mkA hB eM8
  obtain ⟨M9, eM9, h⟩ := bd h
  have hB := h_pG hB (by decide) eM9
  obtain ⟨v10, M11, eM11, h⟩ := b2d h
  have hB := h_mkA hB eM11
  obtain ⟨M12, eM12, h⟩ := bd h
  have hB := h_pG hB (by decide) eM12
  obtain ⟨v13, M14, eM14, h⟩ := b2d h
  have hB := h_mkA hB eM14
  obtain ⟨M15, eM15, h⟩ := bd h
  have hB := h_pG hB (by decide) eM15
  obtain ⟨v16, M17, eM17, h⟩ := b2d h
  have hB := h_mkA hB eM17
  obtain ⟨M18, eM18, h⟩ := bd h
  have hB := h_pG hB (by decide) eM18
  obtain ⟨v19, M20, eM20, h⟩ := b2d h
  have hB := h_mkA hB eM20
  obtain ⟨M21, eM21, h⟩ := bd h
  have hB := h_pG hB (by decide) eM21
  obtain ⟨v22, M23, eM23, h⟩ := b2d h
  have hB := h_mkA hB eM23
  obtain ⟨M24, eM24, h⟩ := bd h
  have hB := h_pG hB (by decide) eM24
  obtain ⟨v25, M26, eM26, h⟩ := b2d h
  have hB := h_mkA hB eM26
  obtain ⟨M27, eM27, h⟩ := bd h
  have hB := h_pG hB (by decide) eM27
  obtain ⟨v28, M29, eM29, h⟩ := b2d h
  have hB := h_mkA hB eM29
  obtain ⟨M30, eM30, h⟩ := bd h
  have hB := h_pG hB (by decide) eM30
  obtain ⟨v31, M32, eM32, h⟩ := b2d h
  have hB := h_mkA hB eM32
  obtain ⟨M33, eM33, h⟩ := bd h
  have hB := h_pG hB (by decide) eM33
  obtain ⟨v34, M35, eM35, h⟩ := b2d h
  have hB := h_mkA hB eM35
  obtain ⟨M36, eM36, h⟩ := bd h
  have hB := h_pG hB (by decide) eM36
  obtain ⟨v37, M38, eM38, h⟩ := b2d h
  have hB := h_mkA hB eM38
  obtain ⟨M39, eM39, h⟩ := bd h
  have hB := h_pG hB (by decide) eM39
  obtain ⟨v40, M41, eM41, h⟩ := b2d h
  have hB := h_mkA hB eM41
  obtain ⟨M42, eM42, h⟩ := bd h
  have hB := h_pG hB (by decide) eM42
  obtain ⟨v43, M44, eM44, h⟩ := b2d h
  have hB := h_mkA hB eM44
  obtain ⟨M45, eM45, h⟩ := bd h
  have hB := h_pG hB (by decide) eM45
  obtain ⟨v46, M47, eM47, h⟩ := b2d h
  have hB := h_mkA hB eM47
  obtain ⟨M48, eM48, h⟩ := bd h
  have hB := h_pG hB (by decide) eM48
  obtain ⟨v49, M50, eM50, h⟩ := b2d h
  have hB := h_mkA hB eM50
  obtain ⟨M51, eM51, h⟩ := bd h
  have hB := h_pG hB (by decide) eM51
  obtain ⟨v52, M53, eM53, h⟩ := b2d h
  have hB := h_mkA hB eM53
  obtain ⟨M54, eM54, h⟩ := bd h
  have hB := h_pG hB (by decide) eM54
  exact hX16_init_L158 fu   fu a0 (0 : Int32) M54 hB h
