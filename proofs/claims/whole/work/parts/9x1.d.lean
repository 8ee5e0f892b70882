/-! ===== what stays small, printed by a program of ours ===== -/
theorem dJ7_fill_53178_L5 (fu : Nat) {dn : Nat} {out : Mm}   : ∀ (n : Nat) (a0 : Option Nat) (a1 : Int32) (a2 : Int32) (a3 : Int32)  (M : Mm), DP dn M → fJ7_fill_53178_L5 fu  n a0 a1 a2 a3 M = some out → DP dn out := by
  intro n
  induction n with
  | zero =>
    intro a0 a1 a2 a3 M hB h
    have h : (none : Option (Mm)) = some out := h
    cases h
  | succ n ih =>
    intro a0 a1 a2 a3 M hB h
    rw [fJ7_fill_53178_L5] at h
    by_cases hc : a3 ≤ a2
    · have h := (if_pos hc).symm.trans h
      obtain rfl := Option.some.inj h
      exact hB
    · have h := (if_neg hc).symm.trans h
      obtain ⟨M1, eM1, h⟩ := bd h
      have hB := d_pA hB eM1
      exact ih a0 a1 (a2 + (1 : Int32)) a3 M1 hB h
theorem dJ7_fill_53178 (fu : Nat) {dn : Nat} {out : Mm}   (a0 : Option Nat) (a1 : Int32)  (M : Mm) (hB : DP dn M) (h : fJ7_fill_53178 fu  a0 a1 M = some out) : DP dn out := by
  unfold fJ7_fill_53178 at h
  obtain ⟨v1, ev1, h⟩ := bd h
  exact dJ7_fill_53178_L5 fu   fu a0 a1 (0 : Int32) v1 M hB h
theorem dJ0_coder_7d493 (fu : Nat) {dn : Nat} {out : Int32 × Mm}   (a0 : Nat)  (M : Mm) (hB : DP dn M) (h : fJ0_coder_7d493 fu  a0 M = some out) : DP dn out.2 := by
  unfold fJ0_coder_7d493 at h
  by_cases hc : (1 : Int32) = 0
  · have h := (if_pos hc).symm.trans h
    obtain ⟨hz, rfl⟩ := rN_some h
    exact hB
  · have h := (if_neg hc).symm.trans h
    obtain ⟨v1, ev1, h⟩ := bd h
    obtain ⟨hz, rfl⟩ := rN_some h
    exact hB
theorem dJ0_length_8abf5 (fu : Nat) {dn : Nat} {out : Int32 × Mm}   (a0 : Nat)  (M : Mm) (hB : DP dn M) (h : fJ0_length_8abf5 fu  a0 M = some out) : DP dn out.2 := by
  unfold fJ0_length_8abf5 at h
  obtain ⟨v1, ev1, h⟩ := bd h
  obtain ⟨v2, ev2, h⟩ := bd h
  obtain ⟨q3, eq3, h⟩ := bd h
  obtain ⟨v5, M4, eM4, h⟩ := b2d h
  have hB := dJ0_coder_7d493 fu q3  M hB eM4
  obtain rfl := Option.some.inj h
  exact hB
theorem dJ0_isLatin1_aae02 (fu : Nat) {dn : Nat} {out : Int32 × Mm}   (a0 : Nat)  (M : Mm) (hB : DP dn M) (h : fJ0_isLatin1_aae02 fu  a0 M = some out) : DP dn out.2 := by
  unfold fJ0_isLatin1_aae02 at h
  by_cases hc : (1 : Int32) = 0
  · have h := (if_pos hc).symm.trans h
    obtain ⟨hz, rfl⟩ := rN_some h
    exact hB
  · have h := (if_neg hc).symm.trans h
    obtain ⟨v1, ev1, h⟩ := bd h
    by_cases hc : v1 = 0
    · have h := (if_pos hc).symm.trans h
      obtain ⟨hz, rfl⟩ := rN_some h
      exact hB
    · have h := (if_neg hc).symm.trans h
      obtain ⟨hz, rfl⟩ := rN_some h
      exact hB
theorem dJ3_checkIndex_8e157_L9 (fu : Nat) {dn : Nat} {out : Int32 × Mm}   (a0 : Int32) (a1 : Int32) (a2 : Option Nat)  (M : Mm) (hB : DP dn M) (h : fJ3_checkIndex_8e157_L9 fu  a0 a1 a2 M = some out) : DP dn out.2 := by
  unfold fJ3_checkIndex_8e157_L9 at h
  cases h
theorem dJ3_checkIndex_8e157 (fu : Nat) {dn : Nat} {out : Int32 × Mm}   (a0 : Int32) (a1 : Int32) (a2 : Option Nat)  (M : Mm) (hB : DP dn M) (h : fJ3_checkIndex_8e157 fu  a0 a1 a2 M = some out) : DP dn out.2 := by
  unfold fJ3_checkIndex_8e157 at h
  by_cases hc : a0 < 0
  · have h := (if_pos hc).symm.trans h
    exact dJ3_checkIndex_8e157_L9 fu    a0 a1 a2 M hB h
  · have h := (if_neg hc).symm.trans h
    by_cases hc : a0 < a1
    · have h := (if_pos hc).symm.trans h
      obtain rfl := Option.some.inj h
      exact hB
    · have h := (if_neg hc).symm.trans h
      exact dJ3_checkIndex_8e157_L9 fu    a0 a1 a2 M hB h
theorem dJ0_checkIndex_df160 (fu : Nat) {dn : Nat} {out : Mm}   (a0 : Int32) (a1 : Int32)  (M : Mm) (hB : DP dn M) (h : fJ0_checkIndex_df160 fu  a0 a1 M = some out) : DP dn out := by
  unfold fJ0_checkIndex_df160 at h
  obtain ⟨v2, M1, eM1, h⟩ := b2d h
  have hB := dJ3_checkIndex_8e157 fu  a0 a1 none M hB eM1
  obtain rfl := Option.some.inj h
  exact hB
theorem dJ1_charAt_3b067 (fu : Nat) {dn : Nat} {out : Int32 × Mm}   (a0 : Option Nat) (a1 : Int32)  (M : Mm) (hB : DP dn M) (h : fJ1_charAt_3b067 fu  a0 a1 M = some out) : DP dn out.2 := by
  unfold fJ1_charAt_3b067 at h
  obtain ⟨v1, ev1, h⟩ := bd h
  obtain ⟨M2, eM2, h⟩ := bd h
  have hB := dJ0_checkIndex_df160 fu  a1 v1 M hB eM2
  obtain ⟨v3, ev3, h⟩ := bd h
  obtain ⟨hz, rfl⟩ := rN_some h
  exact hB
theorem dJ2_length_9d52b (fu : Nat) {dn : Nat} {out : Int32 × Mm}   (a0 : Option Nat)  (M : Mm) (hB : DP dn M) (h : fJ2_length_9d52b fu  a0 M = some out) : DP dn out.2 := by
  unfold fJ2_length_9d52b at h
  obtain ⟨v1, ev1, h⟩ := bd h
  obtain rfl := Option.some.inj h
  exact hB
theorem dJ2_checkIndex_2214a (fu : Nat) {dn : Nat} {out : Mm}   (a0 : Int32) (a1 : Option Nat)  (M : Mm) (hB : DP dn M) (h : fJ2_checkIndex_2214a fu  a0 a1 M = some out) : DP dn out := by
  unfold fJ2_checkIndex_2214a at h
  obtain ⟨v2, M1, eM1, h⟩ := b2d h
  have hB := dJ2_length_9d52b fu  a1 M hB eM1
  obtain ⟨M3, eM3, h⟩ := bd h
  have hB := dJ0_checkIndex_df160 fu  a0 v2 M1 hB eM3
  obtain rfl := Option.some.inj h
  exact hB
theorem dJ2_charAt_3b067 (fu : Nat) {dn : Nat} {out : Int32 × Mm}   (a0 : Option Nat) (a1 : Int32)  (M : Mm) (hB : DP dn M) (h : fJ2_charAt_3b067 fu  a0 a1 M = some out) : DP dn out.2 := by
  unfold fJ2_charAt_3b067 at h
  obtain ⟨M1, eM1, h⟩ := bd h
  have hB := dJ2_checkIndex_2214a fu  a1 a0 M hB eM1
  cases h
theorem dJ0_charAt_5068e (fu : Nat) {dn : Nat} {out : Int32 × Mm}   (a0 : Nat) (a1 : Int32)  (M : Mm) (hB : DP dn M) (h : fJ0_charAt_5068e fu  a0 a1 M = some out) : DP dn out.2 := by
  unfold fJ0_charAt_5068e at h
  obtain ⟨q1, eq1, h⟩ := bd h
  obtain ⟨v3, M2, eM2, h⟩ := b2d h
  have hB := dJ0_isLatin1_aae02 fu q1  M hB eM2
  by_cases hc : v3 = 0
  · have h := (if_pos hc).symm.trans h
    obtain ⟨v4, ev4, h⟩ := bd h
    obtain ⟨v6, M5, eM5, h⟩ := b2d h
    have hB := dJ2_charAt_3b067 fu  v4 a1 M2 hB eM5
    obtain ⟨hz, rfl⟩ := rN_some h
    exact hB
  · have h := (if_neg hc).symm.trans h
    obtain ⟨v7, ev7, h⟩ := bd h
    obtain ⟨v9, M8, eM8, h⟩ := b2d h
    have hB := dJ1_charAt_3b067 fu  v7 a1 M2 hB eM8
    obtain ⟨hz, rfl⟩ := rN_some h
    exact hB
theorem dJ1_canEncode_9a6ad (fu : Nat) {dn : Nat} {out : Int32 × Mm}   (a0 : Int32)  (M : Mm) (hB : DP dn M) (h : fJ1_canEncode_9a6ad fu  a0 M = some out) : DP dn out.2 := by
  unfold fJ1_canEncode_9a6ad at h
  by_cases hc : a0 < 0
  · have h := (if_pos hc).symm.trans h
    obtain ⟨hz, rfl⟩ := rN_some h
    exact hB
  · have h := (if_neg hc).symm.trans h
    by_cases hc : (255 : Int32) < a0
    · have h := (if_pos hc).symm.trans h
      obtain ⟨hz, rfl⟩ := rN_some h
      exact hB
    · have h := (if_neg hc).symm.trans h
      obtain ⟨hz, rfl⟩ := rN_some h
      exact hB
theorem dJ1_indexOfChar_4cfef_L7 (fu : Nat) {dn : Nat} {out : Int32 × Mm}   : ∀ (n : Nat) (a0 : Option Nat) (a3 : Int32) (a4 : Int32) (a5 : Int32)  (M : Mm), DP dn M → fJ1_indexOfChar_4cfef_L7 fu  n a0 a3 a4 a5 M = some out → DP dn out.2 := by
  intro n
  induction n with
  | zero =>
    intro a0 a3 a4 a5 M hB h
    have h : (none : Option (Int32 × Mm)) = some out := h
    cases h
  | succ n ih =>
    intro a0 a3 a4 a5 M hB h
    rw [fJ1_indexOfChar_4cfef_L7] at h
    by_cases hc : a3 ≤ a5
    · have h := (if_pos hc).symm.trans h
      obtain rfl := Option.some.inj h
      exact hB
    · have h := (if_neg hc).symm.trans h
      obtain ⟨v1, ev1, h⟩ := bd h
      by_cases hc : v1 = a4
      · have h := (if_pos hc).symm.trans h
        obtain rfl := Option.some.inj h
        exact hB
      · have h := (if_neg hc).symm.trans h
        exact ih a0 a3 a4 (a5 + (1 : Int32)) M hB h
theorem dJ1_indexOfChar_4cfef (fu : Nat) {dn : Nat} {out : Int32 × Mm}   (a0 : Option Nat) (a1 : Int32) (a2 : Int32) (a3 : Int32)  (M : Mm) (hB : DP dn M) (h : fJ1_indexOfChar_4cfef fu  a0 a1 a2 a3 M = some out) : DP dn out.2 := by
  unfold fJ1_indexOfChar_4cfef at h
  exact dJ1_indexOfChar_4cfef_L7 fu   fu a0 a3 (Int8.toInt32 (Int32.toInt8 a1)) a2 M hB h
theorem dJ1_indexOf_4cfef (fu : Nat) {dn : Nat} {out : Int32 × Mm}   (a0 : Option Nat) (a1 : Int32) (a2 : Int32) (a3 : Int32)  (M : Mm) (hB : DP dn M) (h : fJ1_indexOf_4cfef fu  a0 a1 a2 a3 M = some out) : DP dn out.2 := by
  unfold fJ1_indexOf_4cfef at h
  obtain ⟨v2, M1, eM1, h⟩ := b2d h
  have hB := dJ1_canEncode_9a6ad fu  a1 M hB eM1
  by_cases hc : v2 = 0
  · have h := (if_pos hc).symm.trans h
    obtain rfl := Option.some.inj h
    exact hB
  · have h := (if_neg hc).symm.trans h
    obtain ⟨v3, ev3, h⟩ := bd h
    by_cases hc : (jmax a2 (0 : Int32)) < (jmin a3 v3)
    · have h := (if_pos hc).symm.trans h
      obtain ⟨v5, M4, eM4, h⟩ := b2d h
      have hB := dJ1_indexOfChar_4cfef fu  a0 a1 (jmax a2 (0 : Int32)) (jmin a3 v3) M1 hB eM4
      obtain rfl := Option.some.inj h
      exact hB
    · have h := (if_neg hc).symm.trans h
      obtain rfl := Option.some.inj h
      exact hB
theorem dJ3_checkFromToIndex_8c36e_L14 (fu : Nat) {dn : Nat} {out : Int32 × Mm}   (a0 : Int32) (a1 : Int32) (a2 : Int32) (a3 : Option Nat)  (M : Mm) (hB : DP dn M) (h : fJ3_checkFromToIndex_8c36e_L14 fu  a0 a1 a2 a3 M = some out) : DP dn out.2 := by
  unfold fJ3_checkFromToIndex_8c36e_L14 at h
  cases h
theorem dJ3_checkFromToIndex_8c36e (fu : Nat) {dn : Nat} {out : Int32 × Mm}   (a0 : Int32) (a1 : Int32) (a2 : Int32) (a3 : Option Nat)  (M : Mm) (hB : DP dn M) (h : fJ3_checkFromToIndex_8c36e fu  a0 a1 a2 a3 M = some out) : DP dn out.2 := by
  unfold fJ3_checkFromToIndex_8c36e at h
  by_cases hc : a0 < 0
  · have h := (if_pos hc).symm.trans h
    exact dJ3_checkFromToIndex_8c36e_L14 fu    a0 a1 a2 a3 M hB h
  · have h := (if_neg hc).symm.trans h
    by_cases hc : a1 < a0
    · have h := (if_pos hc).symm.trans h
      exact dJ3_checkFromToIndex_8c36e_L14 fu    a0 a1 a2 a3 M hB h
    · have h := (if_neg hc).symm.trans h
      by_cases hc : a1 ≤ a2
      · have h := (if_pos hc).symm.trans h
        obtain rfl := Option.some.inj h
        exact hB
      · have h := (if_neg hc).symm.trans h
        exact dJ3_checkFromToIndex_8c36e_L14 fu    a0 a1 a2 a3 M hB h
theorem dJ0_checkBoundsBeginEnd_23922 (fu : Nat) {dn : Nat} {out : Mm}   (a0 : Int32) (a1 : Int32) (a2 : Int32)  (M : Mm) (hB : DP dn M) (h : fJ0_checkBoundsBeginEnd_23922 fu  a0 a1 a2 M = some out) : DP dn out := by
  unfold fJ0_checkBoundsBeginEnd_23922 at h
  obtain ⟨v2, M1, eM1, h⟩ := b2d h
  have hB := dJ3_checkFromToIndex_8c36e fu  a0 a1 a2 none M hB eM1
  obtain rfl := Option.some.inj h
  exact hB
theorem dJ2_checkBoundsBeginEnd_d044e (fu : Nat) {dn : Nat} {out : Mm}   (a0 : Int32) (a1 : Int32) (a2 : Option Nat)  (M : Mm) (hB : DP dn M) (h : fJ2_checkBoundsBeginEnd_d044e fu  a0 a1 a2 M = some out) : DP dn out := by
  unfold fJ2_checkBoundsBeginEnd_d044e at h
  obtain ⟨v2, M1, eM1, h⟩ := b2d h
  have hB := dJ2_length_9d52b fu  a2 M hB eM1
  obtain ⟨M3, eM3, h⟩ := bd h
  have hB := dJ0_checkBoundsBeginEnd_23922 fu  a0 a1 v2 M1 hB eM3
  obtain rfl := Option.some.inj h
  exact hB
theorem dJ2_indexOfCharUnsafe_4cfef_L3 (fu : Nat) {dn : Nat} {out : Int32 × Mm}   : ∀ (n : Nat) (a0 : Option Nat) (a1 : Int32) (a3 : Int32) (a4 : Int32)  (M : Mm), DP dn M → fJ2_indexOfCharUnsafe_4cfef_L3 fu  n a0 a1 a3 a4 M = some out → DP dn out.2 := by
  intro n
  induction n with
  | zero =>
    intro a0 a1 a3 a4 M hB h
    have h : (none : Option (Int32 × Mm)) = some out := h
    cases h
  | succ n ih =>
    intro a0 a1 a3 a4 M hB h
    rw [fJ2_indexOfCharUnsafe_4cfef_L3] at h
    by_cases hc : a3 ≤ a4
    · have h := (if_pos hc).symm.trans h
      obtain rfl := Option.some.inj h
      exact hB
    · have h := (if_neg hc).symm.trans h
      cases h
theorem dJ2_indexOfCharUnsafe_4cfef (fu : Nat) {dn : Nat} {out : Int32 × Mm}   (a0 : Option Nat) (a1 : Int32) (a2 : Int32) (a3 : Int32)  (M : Mm) (hB : DP dn M) (h : fJ2_indexOfCharUnsafe_4cfef fu  a0 a1 a2 a3 M = some out) : DP dn out.2 := by
  unfold fJ2_indexOfCharUnsafe_4cfef at h
  exact dJ2_indexOfCharUnsafe_4cfef_L3 fu   fu a0 a1 a3 a2 M hB h
theorem dJ2_indexOfChar_4cfef (fu : Nat) {dn : Nat} {out : Int32 × Mm}   (a0 : Option Nat) (a1 : Int32) (a2 : Int32) (a3 : Int32)  (M : Mm) (hB : DP dn M) (h : fJ2_indexOfChar_4cfef fu  a0 a1 a2 a3 M = some out) : DP dn out.2 := by
  unfold fJ2_indexOfChar_4cfef at h
  obtain ⟨M1, eM1, h⟩ := bd h
  have hB := dJ2_checkBoundsBeginEnd_d044e fu  a2 a3 a0 M hB eM1
  obtain ⟨v3, M2, eM2, h⟩ := b2d h
  have hB := dJ2_indexOfCharUnsafe_4cfef fu  a0 a1 a2 a3 M1 hB eM2
  obtain rfl := Option.some.inj h
  exact hB
theorem dJ11_isValidCodePoint_9a6ad (fu : Nat) {dn : Nat} {out : Int32 × Mm}   (a0 : Int32)  (M : Mm) (hB : DP dn M) (h : fJ11_isValidCodePoint_9a6ad fu  a0 M = some out) : DP dn out.2 := by
  unfold fJ11_isValidCodePoint_9a6ad at h
  by_cases hc : (17 : Int32) ≤ (ushr a0 (16 : Int32))
  · have h := (if_pos hc).symm.trans h
    obtain ⟨hz, rfl⟩ := rN_some h
    exact hB
  · have h := (if_neg hc).symm.trans h
    obtain ⟨hz, rfl⟩ := rN_some h
    exact hB
theorem dJ11_highSurrogate_5068e (fu : Nat) {dn : Nat} {out : Int32 × Mm}   (a0 : Int32)  (M : Mm) (hB : DP dn M) (h : fJ11_highSurrogate_5068e fu  a0 M = some out) : DP dn out.2 := by
  unfold fJ11_highSurrogate_5068e at h
  obtain ⟨hz, rfl⟩ := rN_some h
  exact hB
theorem dJ11_lowSurrogate_5068e (fu : Nat) {dn : Nat} {out : Int32 × Mm}   (a0 : Int32)  (M : Mm) (hB : DP dn M) (h : fJ11_lowSurrogate_5068e fu  a0 M = some out) : DP dn out.2 := by
  unfold fJ11_lowSurrogate_5068e at h
  obtain ⟨hz, rfl⟩ := rN_some h
  exact hB
theorem dJ2_indexOfSupplementary_4cfef_L63 (fu : Nat) {dn : Nat} {out : Int32 × Mm} (k28 : Option Nat → Int32 → Int32 → Int32 → Int32 → Mm → Option (Int32 × Mm)) (hk28 : ∀ (b0 : Option Nat) (b3 : Int32) (b4 : Int32) (b5 : Int32) (b6 : Int32)  (M : Mm), DP dn M → k28 b0 b3 b4 b5 b6 M = some out → DP dn out.2) (a0 : Option Nat) (a3 : Int32) (a4 : Int32) (a5 : Int32) (a6 : Int32)  (M : Mm) (hB : DP dn M) (h : fJ2_indexOfSupplementary_4cfef_L63 fu k28 a0 a3 a4 a5 a6 M = some out) : DP dn out.2 := by
  unfold fJ2_indexOfSupplementary_4cfef_L63 at h
  exact hk28 a0 a3 a4 a5 (a6 + (1 : Int32)) M hB h
theorem dJ2_indexOfSupplementary_4cfef_L28 (fu : Nat) {dn : Nat} {out : Int32 × Mm}   : ∀ (n : Nat) (a0 : Option Nat) (a3 : Int32) (a4 : Int32) (a5 : Int32) (a6 : Int32)  (M : Mm), DP dn M → fJ2_indexOfSupplementary_4cfef_L28 fu  n a0 a3 a4 a5 a6 M = some out → DP dn out.2 := by
  intro n
  induction n with
  | zero =>
    intro a0 a3 a4 a5 a6 M hB h
    have h : (none : Option (Int32 × Mm)) = some out := h
    cases h
  | succ n ih =>
    intro a0 a3 a4 a5 a6 M hB h
    rw [fJ2_indexOfSupplementary_4cfef_L28] at h
    by_cases hc : (a3 - (1 : Int32)) ≤ a6
    · have h := (if_pos hc).symm.trans h
      obtain rfl := Option.some.inj h
      exact hB
    · have h := (if_neg hc).symm.trans h
      cases h
theorem dJ2_indexOfSupplementary_4cfef (fu : Nat) {dn : Nat} {out : Int32 × Mm}   (a0 : Option Nat) (a1 : Int32) (a2 : Int32) (a3 : Int32)  (M : Mm) (hB : DP dn M) (h : fJ2_indexOfSupplementary_4cfef fu  a0 a1 a2 a3 M = some out) : DP dn out.2 := by
  unfold fJ2_indexOfSupplementary_4cfef at h
  obtain ⟨v2, M1, eM1, h⟩ := b2d h
  have hB := dJ11_isValidCodePoint_9a6ad fu  a1 M hB eM1
  by_cases hc : v2 = 0
  · have h := (if_pos hc).symm.trans h
    obtain rfl := Option.some.inj h
    exact hB
  · have h := (if_neg hc).symm.trans h
    obtain ⟨v4, M3, eM3, h⟩ := b2d h
    have hB := dJ11_highSurrogate_5068e fu  a1 M1 hB eM3
    obtain ⟨v6, M5, eM5, h⟩ := b2d h
    have hB := dJ11_lowSurrogate_5068e fu  a1 M3 hB eM5
    obtain ⟨M7, eM7, h⟩ := bd h
    have hB := dJ2_checkBoundsBeginEnd_d044e fu  a2 a3 a0 M5 hB eM7
    exact dJ2_indexOfSupplementary_4cfef_L28 fu   fu a0 a3 v4 v6 a2 M7 hB h
theorem dJ2_indexOf_4cfef (fu : Nat) {dn : Nat} {out : Int32 × Mm}   (a0 : Option Nat) (a1 : Int32) (a2 : Int32) (a3 : Int32)  (M : Mm) (hB : DP dn M) (h : fJ2_indexOf_4cfef fu  a0 a1 a2 a3 M = some out) : DP dn out.2 := by
  unfold fJ2_indexOf_4cfef at h
  obtain ⟨v1, ev1, h⟩ := bd h
  by_cases hc : (jmax a2 (0 : Int32)) < (jmin a3 (v1 >>> ((1 : Int32) &&& 31)))
  · have h := (if_pos hc).symm.trans h
    by_cases hc : (65536 : Int32) ≤ a1
    · have h := (if_pos hc).symm.trans h
      obtain ⟨v3, M2, eM2, h⟩ := b2d h
      have hB := dJ2_indexOfSupplementary_4cfef fu  a0 a1 (jmax a2 (0 : Int32)) (jmin a3 (v1 >>> ((1 : Int32) &&& 31))) M hB eM2
      obtain rfl := Option.some.inj h
      exact hB
    · have h := (if_neg hc).symm.trans h
      obtain ⟨v5, M4, eM4, h⟩ := b2d h
      have hB := dJ2_indexOfChar_4cfef fu  a0 a1 (jmax a2 (0 : Int32)) (jmin a3 (v1 >>> ((1 : Int32) &&& 31))) M hB eM4
      obtain rfl := Option.some.inj h
      exact hB
  · have h := (if_neg hc).symm.trans h
    obtain rfl := Option.some.inj h
    exact hB
theorem dJ0_indexOf_7cf53 (fu : Nat) {dn : Nat} {out : Int32 × Mm}   (a0 : Nat) (a1 : Int32) (a2 : Int32)  (M : Mm) (hB : DP dn M) (h : fJ0_indexOf_7cf53 fu  a0 a1 a2 M = some out) : DP dn out.2 := by
  unfold fJ0_indexOf_7cf53 at h
  obtain ⟨q1, eq1, h⟩ := bd h
  obtain ⟨v3, M2, eM2, h⟩ := b2d h
  have hB := dJ0_isLatin1_aae02 fu q1  M hB eM2
  by_cases hc : v3 = 0
  · have h := (if_pos hc).symm.trans h
    obtain ⟨v4, ev4, h⟩ := bd h
    obtain ⟨q5, eq5, h⟩ := bd h
    obtain ⟨v7, M6, eM6, h⟩ := b2d h
    have hB := dJ0_length_8abf5 fu q5  M2 hB eM6
    obtain ⟨v9, M8, eM8, h⟩ := b2d h
    have hB := dJ2_indexOf_4cfef fu  v4 a1 a2 v7 M6 hB eM8
    obtain rfl := Option.some.inj h
    exact hB
  · have h := (if_neg hc).symm.trans h
    obtain ⟨v10, ev10, h⟩ := bd h
    obtain ⟨q11, eq11, h⟩ := bd h
    obtain ⟨v13, M12, eM12, h⟩ := b2d h
    have hB := dJ0_length_8abf5 fu q11  M2 hB eM12
    obtain ⟨v15, M14, eM14, h⟩ := b2d h
    have hB := dJ1_indexOf_4cfef fu  v10 a1 a2 v13 M12 hB eM14
    obtain rfl := Option.some.inj h
    exact hB
theorem dJ0_indexOf_0f7a4 (fu : Nat) {dn : Nat} {out : Int32 × Mm}   (a0 : Nat) (a1 : Int32)  (M : Mm) (hB : DP dn M) (h : fJ0_indexOf_0f7a4 fu  a0 a1 M = some out) : DP dn out.2 := by
  unfold fJ0_indexOf_0f7a4 at h
  obtain ⟨q1, eq1, h⟩ := bd h
  obtain ⟨v3, M2, eM2, h⟩ := b2d h
  have hB := dJ0_indexOf_7cf53 fu q1 a1 (0 : Int32) M hB eM2
  obtain rfl := Option.some.inj h
  exact hB
theorem dX12_behind (fu : Nat) {dn : Nat} {out : Int32 × Mm}   (a0 : Nat)  (M : Mm) (hB : DP dn M) (h : fX12_behind fu  a0 M = some out) : DP dn out.2 := by
  unfold fX12_behind at h
  obtain ⟨v1, ev1, h⟩ := bd h
  obtain ⟨v2, ev2, h⟩ := bd h
  obtain ⟨v3, ev3, h⟩ := bd h
  obtain rfl := Option.some.inj h
  exact hB
theorem dX12_left (fu : Nat) {dn : Nat} {out : Int32 × Mm}   (a0 : Nat) (a1 : Int32)  (M : Mm) (hB : DP dn M) (h : fX12_left fu  a0 a1 M = some out) : DP dn out.2 := by
  unfold fX12_left at h
  obtain ⟨q1, eq1, h⟩ := bd h
  obtain ⟨v3, M2, eM2, h⟩ := b2d h
  have hB := dX12_behind fu q1  M hB eM2
  obtain ⟨v4, ev4, h⟩ := bd h
  by_cases hc : v4 = 0
  · have h := (if_pos hc).symm.trans h
    obtain rfl := Option.some.inj h
    exact hB
  · have h := (if_neg hc).symm.trans h
    obtain rfl := Option.some.inj h
    exact hB
theorem dX12_held (fu : Nat) {dn : Nat} {out : Int32 × Mm}   (a0 : Nat)  (M : Mm) (hB : DP dn M) (h : fX12_held fu  a0 M = some out) : DP dn out.2 := by
  unfold fX12_held at h
  obtain ⟨v1, ev1, h⟩ := bd h
  obtain ⟨v2, ev2, h⟩ := bd h
  obtain ⟨v3, ev3, h⟩ := bd h
  by_cases hc : v3 = 0
  · have h := (if_pos hc).symm.trans h
    obtain rfl := Option.some.inj h
    exact hB
  · have h := (if_neg hc).symm.trans h
    obtain rfl := Option.some.inj h
    exact hB
theorem dX12_open (fu : Nat) {dn : Nat} {out : Int32 × Mm}   (a0 : Nat)  (M : Mm) (hB : DP dn M) (h : fX12_open fu  a0 M = some out) : DP dn out.2 := by
  unfold fX12_open at h
  obtain ⟨q1, eq1, h⟩ := bd h
  obtain ⟨v3, M2, eM2, h⟩ := b2d h
  have hB := dX12_held fu q1  M hB eM2
  obtain rfl := Option.some.inj h
  exact hB
theorem dX16_word_L2 (fu : Nat) {dn : Nat} {out : Mm}   : ∀ (n : Nat) (a0 : Nat) (a1 : Int32) (a2 : Int32)  (M : Mm), DP dn M → fX16_word_L2 fu  n a0 a1 a2 M = some out → DP dn out := by
  intro n
  induction n with
  | zero =>
    intro a0 a1 a2 M hB h
    have h : (none : Option (Mm)) = some out := h
    cases h
  | succ n ih =>
    intro a0 a1 a2 M hB h
    rw [fX16_word_L2] at h
    by_cases hc : (4 : Int32) ≤ a2
    · have h := (if_pos hc).symm.trans h
      obtain rfl := Option.some.inj h
      exact hB
    · have h := (if_neg hc).symm.trans h
      obtain ⟨v1, ev1, h⟩ := bd h
      obtain ⟨v2, ev2, h⟩ := bd h
      obtain ⟨M3, eM3, h⟩ := bd h
      have hB := d_pA hB eM3
      obtain ⟨v4, ev4, h⟩ := bd h
      obtain ⟨M5, eM5, h⟩ := bd h
      have hB := d_pF hB eM5 (by decide)
      exact ih a0 a1 (a2 + (1 : Int32)) M5 hB h
theorem dX16_word (fu : Nat) {dn : Nat} {out : Mm}   (a0 : Nat) (a1 : Int32)  (M : Mm) (hB : DP dn M) (h : fX16_word fu  a0 a1 M = some out) : DP dn out := by
  unfold fX16_word at h
  exact dX16_word_L2 fu   fu a0 a1 (0 : Int32) M hB h
theorem dX16_feed (fu : Nat) {dn : Nat} {out : Int32 × Mm}   (a0 : Nat) (a1 : Int32) (a2 : Int32) (a3 : Int32) (a4 : Int32) (a5 : Int32)  (M : Mm) (hB : DP dn M) (h : fX16_feed fu  a0 a1 a2 a3 a4 a5 M = some out) : DP dn out.2 := by
  unfold fX16_feed at h
  obtain ⟨v1, ev1, h⟩ := bd h
  by_cases hc : (v1 + (20 : Int32)) ≤ (65540 : Int32)
  · have h := (if_pos hc).symm.trans h
    obtain ⟨q2, eq2, h⟩ := bd h
    obtain ⟨M3, eM3, h⟩ := bd h
    have hB := dX16_word fu q2 a1 M hB eM3
    obtain ⟨q4, eq4, h⟩ := bd h
    obtain ⟨M5, eM5, h⟩ := bd h
    have hB := dX16_word fu q4 a2 M3 hB eM5
    obtain ⟨q6, eq6, h⟩ := bd h
    obtain ⟨M7, eM7, h⟩ := bd h
    have hB := dX16_word fu q6 a3 M5 hB eM7
    obtain ⟨q8, eq8, h⟩ := bd h
    obtain ⟨M9, eM9, h⟩ := bd h
    have hB := dX16_word fu q8 a4 M7 hB eM9
    obtain ⟨q10, eq10, h⟩ := bd h
    obtain ⟨M11, eM11, h⟩ := bd h
    have hB := dX16_word fu q10 a5 M9 hB eM11
    obtain ⟨v12, ev12, h⟩ := bd h
    obtain rfl := Option.some.inj h
    exact hB
  · have h := (if_neg hc).symm.trans h
    obtain rfl := Option.some.inj h
    exact hB
theorem dX16_end (fu : Nat) {dn : Nat} {out : Int32 × Mm}   (a0 : Nat) (a1 : Int32)  (M : Mm) (hB : DP dn M) (h : fX16_end fu  a0 a1 M = some out) : DP dn out.2 := by
  unfold fX16_end at h
  by_cases hc : a1 < 0
  · have h := (if_pos hc).symm.trans h
    obtain rfl := Option.some.inj h
    exact hB
  · have h := (if_neg hc).symm.trans h
    obtain ⟨v1, ev1, h⟩ := bd h
    by_cases hc : a1 ≤ v1
    · have h := (if_pos hc).symm.trans h
      obtain ⟨M2, eM2, h⟩ := bd h
      have hB := d_pF hB eM2 (by decide)
      obtain rfl := Option.some.inj h
      exact hB
    · have h := (if_neg hc).symm.trans h
      obtain rfl := Option.some.inj h
      exact hB
theorem dX16_install_L13 (fu : Nat) {dn : Nat} {out : Int32 × Mm}   : ∀ (n : Nat) (a0 : Nat) (a1 : Int32)  (M : Mm), DP dn M → fX16_install_L13 fu  n a0 a1 M = some out → DP dn out.2 := by
  intro n
  induction n with
  | zero =>
    intro a0 a1 M hB h
    have h : (none : Option (Int32 × Mm)) = some out := h
    cases h
  | succ n ih =>
    intro a0 a1 M hB h
    rw [fX16_install_L13] at h
    obtain ⟨v1, ev1, h⟩ := bd h
    by_cases hc : v1 ≤ a1
    · have h := (if_pos hc).symm.trans h
      obtain ⟨v2, ev2, h⟩ := bd h
      obtain ⟨M3, eM3, h⟩ := bd h
      have hB := d_pF hB eM3 (by decide)
      obtain ⟨M4, eM4, h⟩ := bd h
      have hB := d_pF hB eM4 (by decide)
      obtain ⟨M5, eM5, h⟩ := bd h
      have hB := d_pZ hB eM5 (by decide)
      obtain ⟨v6, ev6, h⟩ := bd h
      obtain rfl := Option.some.inj h
      exact hB
    · have h := (if_neg hc).symm.trans h
      obtain ⟨v7, ev7, h⟩ := bd h
      obtain ⟨v8, ev8, h⟩ := bd h
      obtain ⟨v9, ev9, h⟩ := bd h
      obtain ⟨M10, eM10, h⟩ := bd h
      have hB := d_pA hB eM10
      exact ih a0 (a1 + (1 : Int32)) M10 hB h
theorem dX16_install (fu : Nat) {dn : Nat} {out : Int32 × Mm}   (a0 : Nat)  (M : Mm) (hB : DP dn M) (h : fX16_install fu  a0 M = some out) : DP dn out.2 := by
  unfold fX16_install at h
  obtain ⟨v1, ev1, h⟩ := bd h
  by_cases hc : v1 ≤ (65535 : Int32)
  · have h := (if_pos hc).symm.trans h
    exact dX16_install_L13 fu   fu a0 (0 : Int32) M hB h
  · have h := (if_neg hc).symm.trans h
    obtain rfl := Option.some.inj h
    exact hB
theorem dX16_imageWord_L5 (fu : Nat) {dn : Nat} {out : Int64 × Mm}   : ∀ (n : Nat) (a0 : Nat) (a1 : Int32) (a2 : Int64) (a4 : Int32)  (M : Mm), DP dn M → fX16_imageWord_L5 fu  n a0 a1 a2 a4 M = some out → DP dn out.2 := by
  intro n
  induction n with
  | zero =>
    intro a0 a1 a2 a4 M hB h
    have h : (none : Option (Int64 × Mm)) = some out := h
    cases h
  | succ n ih =>
    intro a0 a1 a2 a4 M hB h
    rw [fX16_imageWord_L5] at h
    by_cases hc : (4 : Int32) ≤ a4
    · have h := (if_pos hc).symm.trans h
      obtain rfl := Option.some.inj h
      exact hB
    · have h := (if_neg hc).symm.trans h
      obtain ⟨v1, ev1, h⟩ := bd h
      obtain ⟨v2, ev2, h⟩ := bd h
      obtain ⟨v3, ev3, h⟩ := bd h
      exact ih a0 a1 v3 (a4 + (1 : Int32)) M hB h
theorem dX16_imageWord (fu : Nat) {dn : Nat} {out : Int64 × Mm}   (a0 : Nat) (a1 : Int32)  (M : Mm) (hB : DP dn M) (h : fX16_imageWord fu  a0 a1 M = some out) : DP dn out.2 := by
  unfold fX16_imageWord at h
  exact dX16_imageWord_L5 fu   fu a0 a1 (0 : Int64) (0 : Int32) M hB h
theorem dX16_check_L54 (fu : Nat) {dn : Nat} {out : Int32 × Mm} (k5 : Nat → Int32 → Int32 → Int32 → Mm → Option (Int32 × Mm)) (k28 : Nat → Int32 → Int32 → Int32 → Int32 → Mm → Option (Int32 × Mm)) (hk5 : ∀ (b0 : Nat) (b2 : Int32) (b3 : Int32) (b4 : Int32)  (M : Mm), DP dn M → k5 b0 b2 b3 b4 M = some out → DP dn out.2) (hk28 : ∀ (b0 : Nat) (b2 : Int32) (b3 : Int32) (b4 : Int32) (b5 : Int32)  (M : Mm), DP dn M → k28 b0 b2 b3 b4 b5 M = some out → DP dn out.2) (a0 : Nat) (a2 : Int32) (a4 : Int32) (a5 : Int32) (s0 : Int32) (M : Mm) (hB : DP dn M) (h : fX16_check_L54 fu k5 k28 a0 a2 a4 a5 s0 M = some out) : DP dn out.2 := by
  unfold fX16_check_L54 at h
  exact hk28 a0 a2 s0 a4 (a5 + (1 : Int32)) M hB h
theorem dX16_check_L28 (fu : Nat) {dn : Nat} {out : Int32 × Mm} (k5 : Nat → Int32 → Int32 → Int32 → Mm → Option (Int32 × Mm)) (hk5 : ∀ (b0 : Nat) (b2 : Int32) (b3 : Int32) (b4 : Int32)  (M : Mm), DP dn M → k5 b0 b2 b3 b4 M = some out → DP dn out.2) : ∀ (n : Nat) (a0 : Nat) (a2 : Int32) (a3 : Int32) (a4 : Int32) (a5 : Int32)  (M : Mm), DP dn M → fX16_check_L28 fu k5 n a0 a2 a3 a4 a5 M = some out → DP dn out.2 := by
  intro n
  induction n with
  | zero =>
    intro a0 a2 a3 a4 a5 M hB h
    have h : (none : Option (Int32 × Mm)) = some out := h
    cases h
  | succ n ih =>
    intro a0 a2 a3 a4 a5 M hB h
    rw [fX16_check_L28] at h
    by_cases hc : (8 : Int32) ≤ a5
    · have h := (if_pos hc).symm.trans h
      exact hk5 a0 a2 a3 (a4 + (1 : Int32)) M hB h
    · have h := (if_neg hc).symm.trans h
      by_cases hc : (a3 &&& (1 : Int32)) = (1 : Int32)
      · have h := (if_pos hc).symm.trans h
        exact dX16_check_L54 fu k5 (fun b0 b2 b3 b4 b5 M => fX16_check_L28 fu k5 n b0 b2 b3 b4 b5 M) hk5 ih  a0 a2 a4 a5 ((ushr a3 (1 : Int32)) ^^^ (-306674912 : Int32)) M hB h
      · have h := (if_neg hc).symm.trans h
        exact dX16_check_L54 fu k5 (fun b0 b2 b3 b4 b5 M => fX16_check_L28 fu k5 n b0 b2 b3 b4 b5 M) hk5 ih  a0 a2 a4 a5 (ushr a3 (1 : Int32)) M hB h
theorem dX16_check_L5 (fu : Nat) {dn : Nat} {out : Int32 × Mm}   : ∀ (n : Nat) (a0 : Nat) (a2 : Int32) (a3 : Int32) (a4 : Int32)  (M : Mm), DP dn M → fX16_check_L5 fu  n a0 a2 a3 a4 M = some out → DP dn out.2 := by
  intro n
  induction n with
  | zero =>
    intro a0 a2 a3 a4 M hB h
    have h : (none : Option (Int32 × Mm)) = some out := h
    cases h
  | succ n ih =>
    intro a0 a2 a3 a4 M hB h
    rw [fX16_check_L5] at h
    by_cases hc : a2 ≤ a4
    · have h := (if_pos hc).symm.trans h
      obtain rfl := Option.some.inj h
      exact hB
    · have h := (if_neg hc).symm.trans h
      obtain ⟨v1, ev1, h⟩ := bd h
      obtain ⟨v2, ev2, h⟩ := bd h
      exact dX16_check_L28 fu (fun b0 b2 b3 b4 M => fX16_check_L5 fu  n b0 b2 b3 b4 M) ih fu a0 a2 (a3 ^^^ (v2 &&& (255 : Int32))) a4 (0 : Int32) M hB h
theorem dX16_check (fu : Nat) {dn : Nat} {out : Int32 × Mm}   (a0 : Nat) (a1 : Int32) (a2 : Int32)  (M : Mm) (hB : DP dn M) (h : fX16_check fu  a0 a1 a2 M = some out) : DP dn out.2 := by
  unfold fX16_check at h
  exact dX16_check_L5 fu   fu a0 a2 (-1 : Int32) a1 M hB h
theorem dX16_files_L376 (fu : Nat) {dn : Nat} {out : Int32 × Mm} (k151 : Nat → Int32 → Int32 → Mm → Option (Int32 × Mm)) (k319 : Nat → Int32 → Int32 → Int32 → Int32 → Mm → Option (Int32 × Mm)) (k331 : Nat → Int32 → Int32 → Int32 → Int32 → Int32 → Int32 → Mm → Option (Int32 × Mm)) (hk151 : ∀ (b0 : Nat) (b1 : Int32) (b2 : Int32)  (M : Mm), DP dn M → k151 b0 b1 b2 M = some out → DP dn out.2) (hk319 : ∀ (b0 : Nat) (b1 : Int32) (b2 : Int32) (b3 : Int32) (b5 : Int32)  (M : Mm), DP dn M → k319 b0 b1 b2 b3 b5 M = some out → DP dn out.2) (hk331 : ∀ (b0 : Nat) (b1 : Int32) (b2 : Int32) (b3 : Int32) (b5 : Int32) (b6 : Int32) (b7 : Int32)  (M : Mm), DP dn M → k331 b0 b1 b2 b3 b5 b6 b7 M = some out → DP dn out.2) (a0 : Nat) (a1 : Int32) (a2 : Int32) (a3 : Int32) (a5 : Int32) (a7 : Int32) (s0 : Int32) (M : Mm) (hB : DP dn M) (h : fX16_files_L376 fu k151 k319 k331 a0 a1 a2 a3 a5 a7 s0 M = some out) : DP dn out.2 := by
  unfold fX16_files_L376 at h
  exact hk331 a0 a1 a2 a3 a5 s0 (a7 + (1 : Int32)) M hB h
theorem dX16_files_L375 (fu : Nat) {dn : Nat} {out : Int32 × Mm} (k151 : Nat → Int32 → Int32 → Mm → Option (Int32 × Mm)) (k319 : Nat → Int32 → Int32 → Int32 → Int32 → Mm → Option (Int32 × Mm)) (k331 : Nat → Int32 → Int32 → Int32 → Int32 → Int32 → Int32 → Mm → Option (Int32 × Mm)) (hk151 : ∀ (b0 : Nat) (b1 : Int32) (b2 : Int32)  (M : Mm), DP dn M → k151 b0 b1 b2 M = some out → DP dn out.2) (hk319 : ∀ (b0 : Nat) (b1 : Int32) (b2 : Int32) (b3 : Int32) (b5 : Int32)  (M : Mm), DP dn M → k319 b0 b1 b2 b3 b5 M = some out → DP dn out.2) (hk331 : ∀ (b0 : Nat) (b1 : Int32) (b2 : Int32) (b3 : Int32) (b5 : Int32) (b6 : Int32) (b7 : Int32)  (M : Mm), DP dn M → k331 b0 b1 b2 b3 b5 b6 b7 M = some out → DP dn out.2) (a0 : Nat) (a1 : Int32) (a2 : Int32) (a3 : Int32) (a5 : Int32) (a7 : Int32)  (M : Mm) (hB : DP dn M) (h : fX16_files_L375 fu k151 k319 k331 a0 a1 a2 a3 a5 a7 M = some out) : DP dn out.2 := by
  unfold fX16_files_L375 at h
  exact dX16_files_L376 fu k151 k319 k331 hk151 hk319 hk331  a0 a1 a2 a3 a5 a7 (0 : Int32) M hB h
theorem dX16_files_L331 (fu : Nat) {dn : Nat} {out : Int32 × Mm} (k151 : Nat → Int32 → Int32 → Mm → Option (Int32 × Mm)) (k319 : Nat → Int32 → Int32 → Int32 → Int32 → Mm → Option (Int32 × Mm)) (hk151 : ∀ (b0 : Nat) (b1 : Int32) (b2 : Int32)  (M : Mm), DP dn M → k151 b0 b1 b2 M = some out → DP dn out.2) (hk319 : ∀ (b0 : Nat) (b1 : Int32) (b2 : Int32) (b3 : Int32) (b5 : Int32)  (M : Mm), DP dn M → k319 b0 b1 b2 b3 b5 M = some out → DP dn out.2) : ∀ (n : Nat) (a0 : Nat) (a1 : Int32) (a2 : Int32) (a3 : Int32) (a5 : Int32) (a6 : Int32) (a7 : Int32)  (M : Mm), DP dn M → fX16_files_L331 fu k151 k319 n a0 a1 a2 a3 a5 a6 a7 M = some out → DP dn out.2 := by
  intro n
  induction n with
  | zero =>
    intro a0 a1 a2 a3 a5 a6 a7 M hB h
    have h : (none : Option (Int32 × Mm)) = some out := h
    cases h
  | succ n ih =>
    intro a0 a1 a2 a3 a5 a6 a7 M hB h
    rw [fX16_files_L331] at h
    by_cases hc : (48 : Int32) ≤ a7
    · have h := (if_pos hc).symm.trans h
      by_cases hc : a6 = 0
      · have h := (if_pos hc).symm.trans h
        exact hk319 a0 a1 a2 a3 (a5 + (1 : Int32)) M hB h
      · have h := (if_neg hc).symm.trans h
        obtain rfl := Option.some.inj h
        exact hB
    · have h := (if_neg hc).symm.trans h
      by_cases hc : a6 = 0
      · have h := (if_pos hc).symm.trans h
        exact dX16_files_L375 fu k151 k319 (fun b0 b1 b2 b3 b5 b6 b7 M => fX16_files_L331 fu k151 k319 n b0 b1 b2 b3 b5 b6 b7 M) hk151 hk319 ih  a0 a1 a2 a3 a5 a7 M hB h
      · have h := (if_neg hc).symm.trans h
        obtain ⟨v1, ev1, h⟩ := bd h
        obtain ⟨v2, ev2, h⟩ := bd h
        obtain ⟨v3, ev3, h⟩ := bd h
        obtain ⟨v4, ev4, h⟩ := bd h
        by_cases hc : v2 = v4
        · have h := (if_pos hc).symm.trans h
          exact dX16_files_L376 fu k151 k319 (fun b0 b1 b2 b3 b5 b6 b7 M => fX16_files_L331 fu k151 k319 n b0 b1 b2 b3 b5 b6 b7 M) hk151 hk319 ih  a0 a1 a2 a3 a5 a7 (1 : Int32) M hB h
        · have h := (if_neg hc).symm.trans h
          exact dX16_files_L375 fu k151 k319 (fun b0 b1 b2 b3 b5 b6 b7 M => fX16_files_L331 fu k151 k319 n b0 b1 b2 b3 b5 b6 b7 M) hk151 hk319 ih  a0 a1 a2 a3 a5 a7 M hB h
theorem dX16_files_L319 (fu : Nat) {dn : Nat} {out : Int32 × Mm} (k151 : Nat → Int32 → Int32 → Mm → Option (Int32 × Mm)) (hk151 : ∀ (b0 : Nat) (b1 : Int32) (b2 : Int32)  (M : Mm), DP dn M → k151 b0 b1 b2 M = some out → DP dn out.2) : ∀ (n : Nat) (a0 : Nat) (a1 : Int32) (a2 : Int32) (a3 : Int32) (a5 : Int32)  (M : Mm), DP dn M → fX16_files_L319 fu k151 n a0 a1 a2 a3 a5 M = some out → DP dn out.2 := by
  intro n
  induction n with
  | zero =>
    intro a0 a1 a2 a3 a5 M hB h
    have h : (none : Option (Int32 × Mm)) = some out := h
    cases h
  | succ n ih =>
    intro a0 a1 a2 a3 a5 M hB h
    rw [fX16_files_L319] at h
    by_cases hc : a2 ≤ a5
    · have h := (if_pos hc).symm.trans h
      exact hk151 a0 a1 (a2 + (1 : Int32)) M hB h
    · have h := (if_neg hc).symm.trans h
      exact dX16_files_L331 fu k151 (fun b0 b1 b2 b3 b5 M => fX16_files_L319 fu k151 n b0 b1 b2 b3 b5 M) hk151 ih fu a0 a1 a2 a3 a5 (1 : Int32) (0 : Int32) M hB h
theorem dX16_files_L269 (fu : Nat) {dn : Nat} {out : Int32 × Mm} (k151 : Nat → Int32 → Int32 → Mm → Option (Int32 × Mm)) (k220 : Nat → Int32 → Int32 → Int32 → Int32 → Int32 → Mm → Option (Int32 × Mm)) (hk151 : ∀ (b0 : Nat) (b1 : Int32) (b2 : Int32)  (M : Mm), DP dn M → k151 b0 b1 b2 M = some out → DP dn out.2) (hk220 : ∀ (b0 : Nat) (b1 : Int32) (b2 : Int32) (b3 : Int32) (b4 : Int32) (b5 : Int32)  (M : Mm), DP dn M → k220 b0 b1 b2 b3 b4 b5 M = some out → DP dn out.2) (a0 : Nat) (a1 : Int32) (a2 : Int32) (a3 : Int32) (a4 : Int32) (a5 : Int32)  (M : Mm) (hB : DP dn M) (h : fX16_files_L269 fu k151 k220 a0 a1 a2 a3 a4 a5 M = some out) : DP dn out.2 := by
  unfold fX16_files_L269 at h
  exact hk220 a0 a1 a2 a3 a4 (a5 + (1 : Int32)) M hB h
theorem dX16_files_L220 (fu : Nat) {dn : Nat} {out : Int32 × Mm} (k151 : Nat → Int32 → Int32 → Mm → Option (Int32 × Mm)) (hk151 : ∀ (b0 : Nat) (b1 : Int32) (b2 : Int32)  (M : Mm), DP dn M → k151 b0 b1 b2 M = some out → DP dn out.2) : ∀ (n : Nat) (a0 : Nat) (a1 : Int32) (a2 : Int32) (a3 : Int32) (a4 : Int32) (a5 : Int32)  (M : Mm), DP dn M → fX16_files_L220 fu k151 n a0 a1 a2 a3 a4 a5 M = some out → DP dn out.2 := by
  intro n
  induction n with
  | zero =>
    intro a0 a1 a2 a3 a4 a5 M hB h
    have h : (none : Option (Int32 × Mm)) = some out := h
    cases h
  | succ n ih =>
    intro a0 a1 a2 a3 a4 a5 M hB h
    rw [fX16_files_L220] at h
    by_cases hc : (48 : Int32) ≤ a5
    · have h := (if_pos hc).symm.trans h
      obtain ⟨q1, eq1, h⟩ := bd h
      obtain ⟨v3, M2, eM2, h⟩ := b2d h
      have hB := dX16_imageWord fu q1 (a3 + (48 : Int32)) M hB eM2
      obtain ⟨q4, eq4, h⟩ := bd h
      obtain ⟨v6, M5, eM5, h⟩ := b2d h
      have hB := dX16_imageWord fu q4 (a3 + (52 : Int32)) M2 hB eM5
      obtain ⟨v7, ev7, h⟩ := bd h
      by_cases hc : 0 < (lg_cmp (v3 + v6) (Int32.toInt64 v7))
      · have h := (if_pos hc).symm.trans h
        obtain rfl := Option.some.inj h
        exact hB
      · have h := (if_neg hc).symm.trans h
        obtain ⟨q8, eq8, h⟩ := bd h
        obtain ⟨v10, M9, eM9, h⟩ := b2d h
        have hB := dX16_imageWord fu q8 (a3 + (60 : Int32)) M5 hB eM9
        by_cases hc : (lg_cmp v10 (0 : Int64)) = 0
        · have h := (if_pos hc).symm.trans h
          exact dX16_files_L319 fu k151 hk151 fu a0 a1 a2 a3 (0 : Int32) M9 hB h
        · have h := (if_neg hc).symm.trans h
          obtain rfl := Option.some.inj h
          exact hB
    · have h := (if_neg hc).symm.trans h
      obtain ⟨v11, ev11, h⟩ := bd h
      obtain ⟨v12, ev12, h⟩ := bd h
      by_cases hc : a4 ≤ a5
      · have h := (if_pos hc).symm.trans h
        by_cases hc : v12 = 0
        · have h := (if_pos hc).symm.trans h
          exact dX16_files_L269 fu k151 (fun b0 b1 b2 b3 b4 b5 M => fX16_files_L220 fu k151 n b0 b1 b2 b3 b4 b5 M) hk151 ih  a0 a1 a2 a3 a4 a5 M hB h
        · have h := (if_neg hc).symm.trans h
          obtain rfl := Option.some.inj h
          exact hB
      · have h := (if_neg hc).symm.trans h
        by_cases hc : v12 < (33 : Int32)
        · have h := (if_pos hc).symm.trans h
          obtain rfl := Option.some.inj h
          exact hB
        · have h := (if_neg hc).symm.trans h
          by_cases hc : v12 ≤ (126 : Int32)
          · have h := (if_pos hc).symm.trans h
            exact dX16_files_L269 fu k151 (fun b0 b1 b2 b3 b4 b5 M => fX16_files_L220 fu k151 n b0 b1 b2 b3 b4 b5 M) hk151 ih  a0 a1 a2 a3 a4 a5 M hB h
          · have h := (if_neg hc).symm.trans h
            obtain rfl := Option.some.inj h
            exact hB
theorem dX16_files_L192 (fu : Nat) {dn : Nat} {out : Int32 × Mm} (k151 : Nat → Int32 → Int32 → Mm → Option (Int32 × Mm)) (hk151 : ∀ (b0 : Nat) (b1 : Int32) (b2 : Int32)  (M : Mm), DP dn M → k151 b0 b1 b2 M = some out → DP dn out.2) (a0 : Nat) (a1 : Int32) (a2 : Int32) (a3 : Int32) (a4 : Int32)  (M : Mm) (hB : DP dn M) (h : fX16_files_L192 fu k151 a0 a1 a2 a3 a4 M = some out) : DP dn out.2 := by
  unfold fX16_files_L192 at h
  by_cases hc : a4 = 0
  · have h := (if_pos hc).symm.trans h
    obtain rfl := Option.some.inj h
    exact hB
  · have h := (if_neg hc).symm.trans h
    by_cases hc : a4 = (48 : Int32)
    · have h := (if_pos hc).symm.trans h
      obtain rfl := Option.some.inj h
      exact hB
    · have h := (if_neg hc).symm.trans h
      obtain ⟨v1, ev1, h⟩ := bd h
      obtain ⟨v2, ev2, h⟩ := bd h
      by_cases hc : v2 = (47 : Int32)
      · have h := (if_pos hc).symm.trans h
        exact dX16_files_L220 fu k151 hk151 fu a0 a1 a2 a3 a4 (0 : Int32) M hB h
      · have h := (if_neg hc).symm.trans h
        obtain rfl := Option.some.inj h
        exact hB
theorem dX16_files_L167 (fu : Nat) {dn : Nat} {out : Int32 × Mm} (k151 : Nat → Int32 → Int32 → Mm → Option (Int32 × Mm)) (hk151 : ∀ (b0 : Nat) (b1 : Int32) (b2 : Int32)  (M : Mm), DP dn M → k151 b0 b1 b2 M = some out → DP dn out.2) : ∀ (n : Nat) (a0 : Nat) (a1 : Int32) (a2 : Int32) (a3 : Int32) (a4 : Int32)  (M : Mm), DP dn M → fX16_files_L167 fu k151 n a0 a1 a2 a3 a4 M = some out → DP dn out.2 := by
  intro n
  induction n with
  | zero =>
    intro a0 a1 a2 a3 a4 M hB h
    have h : (none : Option (Int32 × Mm)) = some out := h
    cases h
  | succ n ih =>
    intro a0 a1 a2 a3 a4 M hB h
    rw [fX16_files_L167] at h
    by_cases hc : (48 : Int32) ≤ a4
    · have h := (if_pos hc).symm.trans h
      exact dX16_files_L192 fu k151 hk151  a0 a1 a2 a3 a4 M hB h
    · have h := (if_neg hc).symm.trans h
      obtain ⟨v1, ev1, h⟩ := bd h
      obtain ⟨v2, ev2, h⟩ := bd h
      by_cases hc : v2 = 0
      · have h := (if_pos hc).symm.trans h
        exact dX16_files_L192 fu k151 hk151  a0 a1 a2 a3 a4 M hB h
      · have h := (if_neg hc).symm.trans h
        exact ih a0 a1 a2 a3 (a4 + (1 : Int32)) M hB h
theorem dX16_files_L151 (fu : Nat) {dn : Nat} {out : Int32 × Mm}   : ∀ (n : Nat) (a0 : Nat) (a1 : Int32) (a2 : Int32)  (M : Mm), DP dn M → fX16_files_L151 fu  n a0 a1 a2 M = some out → DP dn out.2 := by
  intro n
  induction n with
  | zero =>
    intro a0 a1 a2 M hB h
    have h : (none : Option (Int32 × Mm)) = some out := h
    cases h
  | succ n ih =>
    intro a0 a1 a2 M hB h
    rw [fX16_files_L151] at h
    by_cases hc : a1 ≤ a2
    · have h := (if_pos hc).symm.trans h
      obtain rfl := Option.some.inj h
      exact hB
    · have h := (if_neg hc).symm.trans h
      exact dX16_files_L167 fu (fun b0 b1 b2 M => fX16_files_L151 fu  n b0 b1 b2 M) ih fu a0 a1 a2 ((8 : Int32) + ((64 : Int32) * a2)) (0 : Int32) M hB h
theorem dX16_files (fu : Nat) {dn : Nat} {out : Int32 × Mm}   (a0 : Nat)  (M : Mm) (hB : DP dn M) (h : fX16_files fu  a0 M = some out) : DP dn out.2 := by
  unfold fX16_files at h
  obtain ⟨v1, ev1, h⟩ := bd h
  by_cases hc : v1 < (12 : Int32)
  · have h := (if_pos hc).symm.trans h
    obtain rfl := Option.some.inj h
    exact hB
  · have h := (if_neg hc).symm.trans h
    obtain ⟨v2, ev2, h⟩ := bd h
    obtain ⟨v3, ev3, h⟩ := bd h
    by_cases hc : v3 = (83 : Int32)
    · have h := (if_pos hc).symm.trans h
      obtain ⟨v4, ev4, h⟩ := bd h
      obtain ⟨v5, ev5, h⟩ := bd h
      by_cases hc : v5 = (84 : Int32)
      · have h := (if_pos hc).symm.trans h
        obtain ⟨v6, ev6, h⟩ := bd h
        obtain ⟨v7, ev7, h⟩ := bd h
        by_cases hc : v7 = (79 : Int32)
        · have h := (if_pos hc).symm.trans h
          obtain ⟨v8, ev8, h⟩ := bd h
          obtain ⟨v9, ev9, h⟩ := bd h
          by_cases hc : v9 = (82 : Int32)
          · have h := (if_pos hc).symm.trans h
            obtain ⟨v10, ev10, h⟩ := bd h
            obtain ⟨v11, ev11, h⟩ := bd h
            by_cases hc : v11 = 0
            · have h := (if_pos hc).symm.trans h
              obtain ⟨v12, ev12, h⟩ := bd h
              obtain ⟨v13, ev13, h⟩ := bd h
              by_cases hc : v13 = 0
              · have h := (if_pos hc).symm.trans h
                obtain ⟨v14, ev14, h⟩ := bd h
                obtain ⟨v15, ev15, h⟩ := bd h
                obtain ⟨v16, ev16, h⟩ := bd h
                obtain ⟨v17, ev17, h⟩ := bd h
                obtain ⟨v18, ev18, h⟩ := bd h
                by_cases hc : (64 : Int32) < v18
                · have h := (if_pos hc).symm.trans h
                  obtain rfl := Option.some.inj h
                  exact hB
                · have h := (if_neg hc).symm.trans h
                  obtain ⟨v19, ev19, h⟩ := bd h
                  by_cases hc : v19 < ((12 : Int32) + ((64 : Int32) * v18))
                  · have h := (if_pos hc).symm.trans h
                    obtain rfl := Option.some.inj h
                    exact hB
                  · have h := (if_neg hc).symm.trans h
                    obtain ⟨q20, eq20, h⟩ := bd h
                    obtain ⟨v22, M21, eM21, h⟩ := b2d h
                    have hB := dX16_check fu q20 (0 : Int32) ((8 : Int32) + ((64 : Int32) * v18)) M hB eM21
                    obtain ⟨q23, eq23, h⟩ := bd h
                    obtain ⟨v25, M24, eM24, h⟩ := b2d h
                    have hB := dX16_imageWord fu q23 ((8 : Int32) + ((64 : Int32) * v18)) M21 hB eM24
                    by_cases hc : v22 = (Int64.toInt32 v25)
                    · have h := (if_pos hc).symm.trans h
                      exact dX16_files_L151 fu   fu a0 v18 (0 : Int32) M24 hB h
                    · have h := (if_neg hc).symm.trans h
                      obtain rfl := Option.some.inj h
                      exact hB
              · have h := (if_neg hc).symm.trans h
                obtain rfl := Option.some.inj h
                exact hB
            · have h := (if_neg hc).symm.trans h
              obtain rfl := Option.some.inj h
              exact hB
          · have h := (if_neg hc).symm.trans h
            obtain rfl := Option.some.inj h
            exact hB
        · have h := (if_neg hc).symm.trans h
          obtain rfl := Option.some.inj h
          exact hB
      · have h := (if_neg hc).symm.trans h
        obtain rfl := Option.some.inj h
        exact hB
    · have h := (if_neg hc).symm.trans h
      obtain rfl := Option.some.inj h
      exact hB
theorem dX16_net (fu : Nat) {dn : Nat} {out : Int32 × Mm}   (a0 : Nat) (a1 : Int32)  (M : Mm) (hB : DP dn M) (h : fX16_net fu  a0 a1 M = some out) : DP dn out.2 := by
  unfold fX16_net at h
  obtain ⟨v1, ev1, h⟩ := bd h
  obtain ⟨v2, ev2, h⟩ := bd h
  obtain rfl := Option.some.inj h
  exact hB
theorem dX16_isHost (fu : Nat) {dn : Nat} {out : Int32 × Mm}   (a0 : Int32)  (M : Mm) (hB : DP dn M) (h : fX16_isHost fu  a0 M = some out) : DP dn out.2 := by
  unfold fX16_isHost at h
  by_cases hc : (ushr a0 (24 : Int32)) < (1 : Int32)
  · have h := (if_pos hc).symm.trans h
    obtain ⟨hz, rfl⟩ := rN_some h
    exact hB
  · have h := (if_neg hc).symm.trans h
    by_cases hc : (223 : Int32) < (ushr a0 (24 : Int32))
    · have h := (if_pos hc).symm.trans h
      obtain ⟨hz, rfl⟩ := rN_some h
      exact hB
    · have h := (if_neg hc).symm.trans h
      by_cases hc : (ushr a0 (24 : Int32)) = (127 : Int32)
      · have h := (if_pos hc).symm.trans h
        obtain ⟨hz, rfl⟩ := rN_some h
        exact hB
      · have h := (if_neg hc).symm.trans h
        obtain ⟨hz, rfl⟩ := rN_some h
        exact hB
theorem dX16_boot_L380 (fu : Nat) {dn : Nat} {out : Int32 × Mm}   : ∀ (n : Nat) (a0 : Nat) (a7 : Int32) (a8 : Int32)  (M : Mm), DP dn M → fX16_boot_L380 fu  n a0 a7 a8 M = some out → DP dn out.2 := by
  intro n
  induction n with
  | zero =>
    intro a0 a7 a8 M hB h
    have h : (none : Option (Int32 × Mm)) = some out := h
    cases h
  | succ n ih =>
    intro a0 a7 a8 M hB h
    rw [fX16_boot_L380] at h
    by_cases hc : (4 : Int32) ≤ a8
    · have h := (if_pos hc).symm.trans h
      obtain rfl := Option.some.inj h
      exact hB
    · have h := (if_neg hc).symm.trans h
      obtain ⟨v1, ev1, h⟩ := bd h
      obtain ⟨v2, ev2, h⟩ := bd h
      obtain ⟨M3, eM3, h⟩ := bd h
      have hB := d_pZ hB eM3 (by decide)
      exact ih a0 a7 (a8 + (1 : Int32)) M3 hB h
theorem dX16_boot_L353 (fu : Nat) {dn : Nat} {out : Int32 × Mm}   : ∀ (n : Nat) (a0 : Nat) (a7 : Int32) (a8 : Int32)  (M : Mm), DP dn M → fX16_boot_L353 fu  n a0 a7 a8 M = some out → DP dn out.2 := by
  intro n
  induction n with
  | zero =>
    intro a0 a7 a8 M hB h
    have h : (none : Option (Int32 × Mm)) = some out := h
    cases h
  | succ n ih =>
    intro a0 a7 a8 M hB h
    rw [fX16_boot_L353] at h
    by_cases hc : (8 : Int32) ≤ a8
    · have h := (if_pos hc).symm.trans h
      exact dX16_boot_L380 fu   fu a0 a7 (0 : Int32) M hB h
    · have h := (if_neg hc).symm.trans h
      obtain ⟨v1, ev1, h⟩ := bd h
      obtain ⟨v2, ev2, h⟩ := bd h
      obtain ⟨M3, eM3, h⟩ := bd h
      have hB := d_pZ hB eM3 (by decide)
      exact ih a0 a7 (a8 + (1 : Int32)) M3 hB h
theorem dX16_boot_L326 (fu : Nat) {dn : Nat} {out : Int32 × Mm}   : ∀ (n : Nat) (a0 : Nat) (a7 : Int32) (a8 : Int32)  (M : Mm), DP dn M → fX16_boot_L326 fu  n a0 a7 a8 M = some out → DP dn out.2 := by
  intro n
  induction n with
  | zero =>
    intro a0 a7 a8 M hB h
    have h : (none : Option (Int32 × Mm)) = some out := h
    cases h
  | succ n ih =>
    intro a0 a7 a8 M hB h
    rw [fX16_boot_L326] at h
    by_cases hc : (16 : Int32) ≤ a8
    · have h := (if_pos hc).symm.trans h
      exact dX16_boot_L353 fu   fu a0 a7 (0 : Int32) M hB h
    · have h := (if_neg hc).symm.trans h
      obtain ⟨v1, ev1, h⟩ := bd h
      obtain ⟨v2, ev2, h⟩ := bd h
      obtain ⟨M3, eM3, h⟩ := bd h
      have hB := d_pZ hB eM3 (by decide)
      exact ih a0 a7 (a8 + (1 : Int32)) M3 hB h
theorem dX16_boot_L299 (fu : Nat) {dn : Nat} {out : Int32 × Mm}   : ∀ (n : Nat) (a0 : Nat) (a7 : Int32) (a8 : Int32)  (M : Mm), DP dn M → fX16_boot_L299 fu  n a0 a7 a8 M = some out → DP dn out.2 := by
  intro n
  induction n with
  | zero =>
    intro a0 a7 a8 M hB h
    have h : (none : Option (Int32 × Mm)) = some out := h
    cases h
  | succ n ih =>
    intro a0 a7 a8 M hB h
    rw [fX16_boot_L299] at h
    by_cases hc : (16 : Int32) ≤ a8
    · have h := (if_pos hc).symm.trans h
      exact dX16_boot_L326 fu   fu a0 a7 (0 : Int32) M hB h
    · have h := (if_neg hc).symm.trans h
      obtain ⟨v1, ev1, h⟩ := bd h
      obtain ⟨v2, ev2, h⟩ := bd h
      obtain ⟨M3, eM3, h⟩ := bd h
      have hB := d_pF hB eM3 (by decide)
      exact ih a0 a7 (a8 + (1 : Int32)) M3 hB h
theorem dX16_boot_L275 (fu : Nat) {dn : Nat} {out : Int32 × Mm}   : ∀ (n : Nat) (a0 : Nat) (a7 : Int32) (a8 : Int32)  (M : Mm), DP dn M → fX16_boot_L275 fu  n a0 a7 a8 M = some out → DP dn out.2 := by
  intro n
  induction n with
  | zero =>
    intro a0 a7 a8 M hB h
    have h : (none : Option (Int32 × Mm)) = some out := h
    cases h
  | succ n ih =>
    intro a0 a7 a8 M hB h
    rw [fX16_boot_L275] at h
    by_cases hc : (8 : Int32) ≤ a8
    · have h := (if_pos hc).symm.trans h
      exact dX16_boot_L299 fu   fu a0 a7 (0 : Int32) M hB h
    · have h := (if_neg hc).symm.trans h
      obtain ⟨v1, ev1, h⟩ := bd h
      obtain ⟨M2, eM2, h⟩ := bd h
      have hB := d_pA hB eM2
      exact ih a0 a7 (a8 + (1 : Int32)) M2 hB h
theorem dX16_boot_L120 (fu : Nat) {dn : Nat} {out : Int32 × Mm} (k110 : Nat → Int32 → Int32 → Mm → Option (Int32 × Mm)) (hk110 : ∀ (b0 : Nat) (b7 : Int32) (b8 : Int32)  (M : Mm), DP dn M → k110 b0 b7 b8 M = some out → DP dn out.2) : ∀ (n : Nat) (a0 : Nat) (a7 : Int32) (a8 : Int32) (a9 : Int32)  (M : Mm), DP dn M → fX16_boot_L120 fu k110 n a0 a7 a8 a9 M = some out → DP dn out.2 := by
  intro n
  induction n with
  | zero =>
    intro a0 a7 a8 a9 M hB h
    have h : (none : Option (Int32 × Mm)) = some out := h
    cases h
  | succ n ih =>
    intro a0 a7 a8 a9 M hB h
    rw [fX16_boot_L120] at h
    by_cases hc : (48 : Int32) ≤ a9
    · have h := (if_pos hc).symm.trans h
      obtain ⟨v1, ev1, h⟩ := bd h
      obtain ⟨q2, eq2, h⟩ := bd h
      obtain ⟨v4, M3, eM3, h⟩ := b2d h
      have hB := dX16_imageWord fu q2 (((8 : Int32) + ((64 : Int32) * a8)) + (48 : Int32)) M hB eM3
      obtain ⟨M5, eM5, h⟩ := bd h
      have hB := d_pA hB eM5
      obtain ⟨v6, ev6, h⟩ := bd h
      obtain ⟨q7, eq7, h⟩ := bd h
      obtain ⟨v9, M8, eM8, h⟩ := b2d h
      have hB := dX16_imageWord fu q7 (((8 : Int32) + ((64 : Int32) * a8)) + (52 : Int32)) M5 hB eM8
      obtain ⟨M10, eM10, h⟩ := bd h
      have hB := d_pA hB eM10
      obtain ⟨v11, ev11, h⟩ := bd h
      obtain ⟨q12, eq12, h⟩ := bd h
      obtain ⟨v14, M13, eM13, h⟩ := b2d h
      have hB := dX16_imageWord fu q12 (((8 : Int32) + ((64 : Int32) * a8)) + (56 : Int32)) M10 hB eM13
      obtain ⟨M15, eM15, h⟩ := bd h
      have hB := d_pA hB eM15
      exact hk110 a0 a7 (a8 + (1 : Int32)) M15 hB h
    · have h := (if_neg hc).symm.trans h
      obtain ⟨v16, ev16, h⟩ := bd h
      obtain ⟨v17, ev17, h⟩ := bd h
      obtain ⟨v18, ev18, h⟩ := bd h
      obtain ⟨M19, eM19, h⟩ := bd h
      have hB := d_pA hB eM19
      exact ih a0 a7 a8 (a9 + (1 : Int32)) M19 hB h
theorem dX16_boot_L110 (fu : Nat) {dn : Nat} {out : Int32 × Mm}   : ∀ (n : Nat) (a0 : Nat) (a7 : Int32) (a8 : Int32)  (M : Mm), DP dn M → fX16_boot_L110 fu  n a0 a7 a8 M = some out → DP dn out.2 := by
  intro n
  induction n with
  | zero =>
    intro a0 a7 a8 M hB h
    have h : (none : Option (Int32 × Mm)) = some out := h
    cases h
  | succ n ih =>
    intro a0 a7 a8 M hB h
    rw [fX16_boot_L110] at h
    by_cases hc : a7 ≤ a8
    · have h := (if_pos hc).symm.trans h
      obtain ⟨M1, eM1, h⟩ := bd h
      have hB := d_pZ hB eM1 (by decide)
      obtain ⟨M2, eM2, h⟩ := bd h
      have hB := d_pF hB eM2 (by decide)
      obtain ⟨M3, eM3, h⟩ := bd h
      have hB := d_pF hB eM3 (by decide)
      obtain ⟨M4, eM4, h⟩ := bd h
      have hB := d_pF hB eM4 (by decide)
      obtain ⟨M5, eM5, h⟩ := bd h
      have hB := d_pF hB eM5 (by decide)
      obtain ⟨M6, eM6, h⟩ := bd h
      have hB := d_pF hB eM6 (by decide)
      obtain ⟨M7, eM7, h⟩ := bd h
      have hB := d_pF hB eM7 (by decide)
      exact dX16_boot_L275 fu   fu a0 a7 (0 : Int32) M7 hB h
    · have h := (if_neg hc).symm.trans h
      exact dX16_boot_L120 fu (fun b0 b7 b8 M => fX16_boot_L110 fu  n b0 b7 b8 M) ih fu a0 a7 a8 (0 : Int32) M hB h
theorem dX16_boot (fu : Nat) {dn : Nat} {out : Int32 × Mm}   (a0 : Nat) (a1 : Int32) (a2 : Int32) (a3 : Int32) (a4 : Int32) (a5 : Int32)  (M : Mm) (hB : DP dn M) (h : fX16_boot fu  a0 a1 a2 a3 a4 a5 M = some out) : DP dn out.2 := by
  unfold fX16_boot at h
  by_cases hc : a2 < (8 : Int32)
  · have h := (if_pos hc).symm.trans h
    obtain rfl := Option.some.inj h
    exact hB
  · have h := (if_neg hc).symm.trans h
    by_cases hc : (30 : Int32) < a2
    · have h := (if_pos hc).symm.trans h
      obtain rfl := Option.some.inj h
      exact hB
    · have h := (if_neg hc).symm.trans h
      obtain ⟨v2, M1, eM1, h⟩ := b2d h
      have hB := dX16_isHost fu  a1 M hB eM1
      by_cases hc : v2 = 0
      · have h := (if_pos hc).symm.trans h
        obtain rfl := Option.some.inj h
        exact hB
      · have h := (if_neg hc).symm.trans h
        by_cases hc : (a3 >>> (((32 : Int32) - a2) &&& 31)) = (a1 >>> (((32 : Int32) - a2) &&& 31))
        · have h := (if_pos hc).symm.trans h
          by_cases hc : a3 = a1
          · have h := (if_pos hc).symm.trans h
            obtain rfl := Option.some.inj h
            exact hB
          · have h := (if_neg hc).symm.trans h
            by_cases hc : ((a4 >>> ((8 : Int32) &&& 31)) &&& (1 : Int32)) = (1 : Int32)
            · have h := (if_pos hc).symm.trans h
              obtain rfl := Option.some.inj h
              exact hB
            · have h := (if_neg hc).symm.trans h
              obtain ⟨q3, eq3, h⟩ := bd h
              obtain ⟨v5, M4, eM4, h⟩ := b2d h
              have hB := dX16_files fu q3  M1 hB eM4
              by_cases hc : 0 ≤ v5
              · have h := (if_pos hc).symm.trans h
                obtain ⟨M6, eM6, h⟩ := bd h
                have hB := d_pF hB eM6 (by decide)
                obtain ⟨M7, eM7, h⟩ := bd h
                have hB := d_pF hB eM7 (by decide)
                obtain ⟨M8, eM8, h⟩ := bd h
                have hB := d_pF hB eM8 (by decide)
                obtain ⟨M9, eM9, h⟩ := bd h
                have hB := d_pF hB eM9 (by decide)
                obtain ⟨M10, eM10, h⟩ := bd h
                have hB := d_pF hB eM10 (by decide)
                obtain ⟨M11, eM11, h⟩ := bd h
                have hB := d_pF hB eM11 (by decide)
                exact dX16_boot_L110 fu   fu a0 v5 (0 : Int32) M11 hB h
              · have h := (if_neg hc).symm.trans h
                obtain rfl := Option.some.inj h
                exact hB
        · have h := (if_neg hc).symm.trans h
          obtain rfl := Option.some.inj h
          exact hB
theorem dX16_put_L3 (fu : Nat) {dn : Nat} {out : Mm}   : ∀ (n : Nat) (a0 : Nat) (a1 : Int32) (a2 : Int32) (a3 : Int32) (a4 : Int32)  (M : Mm), DP dn M → fX16_put_L3 fu  n a0 a1 a2 a3 a4 M = some out → DP dn out := by
  intro n
  induction n with
  | zero =>
    intro a0 a1 a2 a3 a4 M hB h
    have h : (none : Option (Mm)) = some out := h
    cases h
  | succ n ih =>
    intro a0 a1 a2 a3 a4 M hB h
    rw [fX16_put_L3] at h
    by_cases hc : a2 ≤ a4
    · have h := (if_pos hc).symm.trans h
      obtain rfl := Option.some.inj h
      exact hB
    · have h := (if_neg hc).symm.trans h
      obtain ⟨v1, ev1, h⟩ := bd h
      obtain ⟨M2, eM2, h⟩ := bd h
      have hB := d_pA hB eM2
      exact ih a0 a1 a2 a3 (a4 + (1 : Int32)) M2 hB h
theorem dX16_put (fu : Nat) {dn : Nat} {out : Mm}   (a0 : Nat) (a1 : Int32) (a2 : Int32) (a3 : Int32)  (M : Mm) (hB : DP dn M) (h : fX16_put fu  a0 a1 a2 a3 M = some out) : DP dn out := by
  unfold fX16_put at h
  exact dX16_put_L3 fu   fu a0 a1 a2 a3 (0 : Int32) M hB h
theorem dX16_send_L116 (fu : Nat) {dn : Nat} {out : Mm}   : ∀ (n : Nat) (a0 : Nat) (a5 : Int32) (a6 : Int32) (a7 : Int32)  (M : Mm), DP dn M → fX16_send_L116 fu  n a0 a5 a6 a7 M = some out → DP dn out := by
  intro n
  induction n with
  | zero =>
    intro a0 a5 a6 a7 M hB h
    have h : (none : Option (Mm)) = some out := h
    cases h
  | succ n ih =>
    intro a0 a5 a6 a7 M hB h
    rw [fX16_send_L116] at h
    by_cases hc : a5 ≤ a7
    · have h := (if_pos hc).symm.trans h
      obtain ⟨v1, ev1, h⟩ := bd h
      obtain ⟨M2, eM2, h⟩ := bd h
      have hB := d_pA hB eM2
      obtain ⟨v3, ev3, h⟩ := bd h
      obtain ⟨v4, ev4, h⟩ := bd h
      obtain ⟨M5, eM5, h⟩ := bd h
      have hB := d_pA hB eM5
      obtain ⟨v6, ev6, h⟩ := bd h
      obtain ⟨M7, eM7, h⟩ := bd h
      have hB := d_pF hB eM7 (by decide)
      obtain rfl := Option.some.inj h
      exact hB
    · have h := (if_neg hc).symm.trans h
      obtain ⟨v8, ev8, h⟩ := bd h
      obtain ⟨v9, ev9, h⟩ := bd h
      obtain ⟨v10, ev10, h⟩ := bd h
      obtain ⟨M11, eM11, h⟩ := bd h
      have hB := d_pA hB eM11
      exact ih a0 a5 a6 (a7 + (1 : Int32)) M11 hB h
theorem dX16_send_L55 (fu : Nat) {dn : Nat} {out : Mm}   : ∀ (n : Nat) (a0 : Nat) (a5 : Int32) (a6 : Int32)  (M : Mm), DP dn M → fX16_send_L55 fu  n a0 a5 a6 M = some out → DP dn out := by
  intro n
  induction n with
  | zero =>
    intro a0 a5 a6 M hB h
    have h : (none : Option (Mm)) = some out := h
    cases h
  | succ n ih =>
    intro a0 a5 a6 M hB h
    rw [fX16_send_L55] at h
    by_cases hc : (60 : Int32) ≤ a6
    · have h := (if_pos hc).symm.trans h
      by_cases hc : (jmax a5 (60 : Int32)) ≤ (1514 : Int32)
      · have h := (if_pos hc).symm.trans h
        obtain ⟨v1, ev1, h⟩ := bd h
        exact dX16_send_L116 fu   fu a0 (jmax a5 (60 : Int32)) (irm v1 (32 : Int32)) (0 : Int32) M hB h
      · have h := (if_neg hc).symm.trans h
        obtain ⟨v2, ev2, h⟩ := bd h
        obtain ⟨M3, eM3, h⟩ := bd h
        have hB := d_pF hB eM3 (by decide)
        obtain rfl := Option.some.inj h
        exact hB
    · have h := (if_neg hc).symm.trans h
      obtain ⟨v4, ev4, h⟩ := bd h
      obtain ⟨M5, eM5, h⟩ := bd h
      have hB := d_pA hB eM5
      exact ih a0 a5 (a6 + (1 : Int32)) M5 hB h
theorem dX16_send (fu : Nat) {dn : Nat} {out : Mm}   (a0 : Nat) (a1 : Int32) (a2 : Int32) (a3 : Int32) (a4 : Int32)  (M : Mm) (hB : DP dn M) (h : fX16_send fu  a0 a1 a2 a3 a4 M = some out) : DP dn out := by
  unfold fX16_send at h
  obtain ⟨q1, eq1, h⟩ := bd h
  obtain ⟨M2, eM2, h⟩ := bd h
  have hB := dX16_put fu q1 (0 : Int32) (2 : Int32) a1 M hB eM2
  obtain ⟨q3, eq3, h⟩ := bd h
  obtain ⟨M4, eM4, h⟩ := bd h
  have hB := dX16_put fu q3 (2 : Int32) (4 : Int32) a2 M2 hB eM4
  obtain ⟨v5, ev5, h⟩ := bd h
  obtain ⟨q6, eq6, h⟩ := bd h
  obtain ⟨M7, eM7, h⟩ := bd h
  have hB := dX16_put fu q6 (6 : Int32) (2 : Int32) v5 M4 hB eM7
  obtain ⟨v8, ev8, h⟩ := bd h
  obtain ⟨q9, eq9, h⟩ := bd h
  obtain ⟨M10, eM10, h⟩ := bd h
  have hB := dX16_put fu q9 (8 : Int32) (4 : Int32) v8 M7 hB eM10
  obtain ⟨q11, eq11, h⟩ := bd h
  obtain ⟨M12, eM12, h⟩ := bd h
  have hB := dX16_put fu q11 (12 : Int32) (2 : Int32) a3 M10 hB eM12
  exact dX16_send_L55 fu   fu a0 ((14 : Int32) + a4) ((14 : Int32) + a4) M12 hB h
theorem dX16_sixteen_L2 (fu : Nat) {dn : Nat} {out : Int32 × Mm}   : ∀ (n : Nat) (a2 : Int64)  (M : Mm), DP dn M → fX16_sixteen_L2 fu  n a2 M = some out → DP dn out.2 := by
  intro n
  induction n with
  | zero =>
    intro a2 M hB h
    have h : (none : Option (Int32 × Mm)) = some out := h
    cases h
  | succ n ih =>
    intro a2 M hB h
    rw [fX16_sixteen_L2] at h
    by_cases hc : (lg_cmp a2 (65535 : Int64)) ≤ 0
    · have h := (if_pos hc).symm.trans h
      obtain rfl := Option.some.inj h
      exact hB
    · have h := (if_neg hc).symm.trans h
      obtain ⟨v1, ev1, h⟩ := bd h
      exact ih v1 M hB h
theorem dX16_sixteen (fu : Nat) {dn : Nat} {out : Int32 × Mm}   (a0 : Int64)  (M : Mm) (hB : DP dn M) (h : fX16_sixteen fu  a0 M = some out) : DP dn out.2 := by
  unfold fX16_sixteen at h
  exact dX16_sixteen_L2 fu   fu a0 M hB h
theorem dX16_added_L37 (fu : Nat) {dn : Nat} {out : Int64 × Mm} (k6 : Option Nat → Int32 → Int32 → Int64 → Int32 → Mm → Option (Int64 × Mm)) (hk6 : ∀ (b0 : Option Nat) (b1 : Int32) (b2 : Int32) (b5 : Int64) (b7 : Int32)  (M : Mm), DP dn M → k6 b0 b1 b2 b5 b7 M = some out → DP dn out.2) (a0 : Option Nat) (a1 : Int32) (a2 : Int32) (a7 : Int32) (s0 : Int64) (s1 : Int32) (s2 : Int32) (M : Mm) (hB : DP dn M) (h : fX16_added_L37 fu k6 a0 a1 a2 a7 s0 s1 s2 M = some out) : DP dn out.2 := by
  unfold fX16_added_L37 at h
  obtain ⟨v1, ev1, h⟩ := bd h
  exact hk6 a0 a1 a2 v1 (a7 + (1 : Int32)) M hB h
theorem dX16_added_L6 (fu : Nat) {dn : Nat} {out : Int64 × Mm}   : ∀ (n : Nat) (a0 : Option Nat) (a1 : Int32) (a2 : Int32) (a5 : Int64) (a7 : Int32)  (M : Mm), DP dn M → fX16_added_L6 fu  n a0 a1 a2 a5 a7 M = some out → DP dn out.2 := by
  intro n
  induction n with
  | zero =>
    intro a0 a1 a2 a5 a7 M hB h
    have h : (none : Option (Int64 × Mm)) = some out := h
    cases h
  | succ n ih =>
    intro a0 a1 a2 a5 a7 M hB h
    rw [fX16_added_L6] at h
    by_cases hc : a2 ≤ a7
    · have h := (if_pos hc).symm.trans h
      obtain rfl := Option.some.inj h
      exact hB
    · have h := (if_neg hc).symm.trans h
      obtain ⟨v1, ev1, h⟩ := bd h
      by_cases hc : (irm a7 (2 : Int32)) = 0
      · have h := (if_pos hc).symm.trans h
        exact dX16_added_L37 fu (fun b0 b1 b2 b5 b7 M => fX16_added_L6 fu  n b0 b1 b2 b5 b7 M) ih  a0 a1 a2 a7 a5 (v1 &&& (255 : Int32)) (8 : Int32) M hB h
      · have h := (if_neg hc).symm.trans h
        exact dX16_added_L37 fu (fun b0 b1 b2 b5 b7 M => fX16_added_L6 fu  n b0 b1 b2 b5 b7 M) ih  a0 a1 a2 a7 a5 (v1 &&& (255 : Int32)) (0 : Int32) M hB h
theorem dX16_added (fu : Nat) {dn : Nat} {out : Int64 × Mm}   (a0 : Option Nat) (a1 : Int32) (a2 : Int32) (a3 : Int64)  (M : Mm) (hB : DP dn M) (h : fX16_added fu  a0 a1 a2 a3 M = some out) : DP dn out.2 := by
  unfold fX16_added at h
  exact dX16_added_L6 fu   fu a0 a1 a2 a3 (0 : Int32) M hB h
theorem dX16_entry_L40 (fu : Nat) {dn : Nat} {out : Option Nat × Mm} (k2 : Nat → Int32 → Int32 → Mm → Option (Option Nat × Mm)) (hk2 : ∀ (b0 : Nat) (b1 : Int32) (b2 : Int32)  (M : Mm), DP dn M → k2 b0 b1 b2 M = some out → DP dn out.2) (a0 : Nat) (a1 : Int32) (a2 : Int32)  (M : Mm) (hB : DP dn M) (h : fX16_entry_L40 fu k2 a0 a1 a2 M = some out) : DP dn out.2 := by
  unfold fX16_entry_L40 at h
  exact hk2 a0 a1 (a2 + (1 : Int32)) M hB h
theorem dX16_entry_L2 (fu : Nat) {dn : Nat} {out : Option Nat × Mm}   : ∀ (n : Nat) (a0 : Nat) (a1 : Int32) (a2 : Int32)  (M : Mm), DP dn M → fX16_entry_L2 fu  n a0 a1 a2 M = some out → DP dn out.2 := by
  intro n
  induction n with
  | zero =>
    intro a0 a1 a2 M hB h
    have h : (none : Option (Option Nat × Mm)) = some out := h
    cases h
  | succ n ih =>
    intro a0 a1 a2 M hB h
    rw [fX16_entry_L2] at h
    by_cases hc : (16 : Int32) ≤ a2
    · have h := (if_pos hc).symm.trans h
      obtain rfl := Option.some.inj h
      exact hB
    · have h := (if_neg hc).symm.trans h
      obtain ⟨v1, ev1, h⟩ := bd h
      obtain ⟨v2, ev2, h⟩ := bd h
      obtain ⟨v3, ev3, h⟩ := bd h
      by_cases hc : v3 = 0
      · have h := (if_pos hc).symm.trans h
        exact dX16_entry_L40 fu (fun b0 b1 b2 M => fX16_entry_L2 fu  n b0 b1 b2 M) ih  a0 a1 a2 M hB h
      · have h := (if_neg hc).symm.trans h
        obtain ⟨v4, ev4, h⟩ := bd h
        obtain ⟨v5, ev5, h⟩ := bd h
        obtain ⟨v6, ev6, h⟩ := bd h
        by_cases hc : v6 = a1
        · have h := (if_pos hc).symm.trans h
          obtain ⟨v7, ev7, h⟩ := bd h
          obtain ⟨v8, ev8, h⟩ := bd h
          obtain rfl := Option.some.inj h
          exact hB
        · have h := (if_neg hc).symm.trans h
          exact dX16_entry_L40 fu (fun b0 b1 b2 M => fX16_entry_L2 fu  n b0 b1 b2 M) ih  a0 a1 a2 M hB h
theorem dX16_entry (fu : Nat) {dn : Nat} {out : Option Nat × Mm}   (a0 : Nat) (a1 : Int32)  (M : Mm) (hB : DP dn M) (h : fX16_entry fu  a0 a1 M = some out) : DP dn out.2 := by
  unfold fX16_entry at h
  exact dX16_entry_L2 fu   fu a0 a1 (0 : Int32) M hB h
theorem dX16_counting (fu : Nat) {dn : Nat} {out : Option Nat × Mm}   (a0 : Nat) (a1 : Int32)  (M : Mm) (hB : DP dn M) (h : fX16_counting fu  a0 a1 M = some out) : DP dn out.2 := by
  unfold fX16_counting at h
  obtain ⟨q1, eq1, h⟩ := bd h
  obtain ⟨v3, M2, eM2, h⟩ := b2d h
  have hB := dX16_entry fu q1 a1 M hB eM2
  by_cases hc : v3 = none
  · have h := (if_pos hc).symm.trans h
    obtain rfl := Option.some.inj h
    exact hB
  · have h := (if_neg hc).symm.trans h
    obtain ⟨v4, ev4, h⟩ := bd h
    obtain ⟨v5, ev5, h⟩ := bd h
    by_cases hc : (60000 : Int32) ≤ (v4 - v5)
    · have h := (if_pos hc).symm.trans h
      obtain rfl := Option.some.inj h
      exact hB
    · have h := (if_neg hc).symm.trans h
      obtain rfl := Option.some.inj h
      exact hB
theorem dX16_packet_L40 (fu : Nat) {dn : Nat} {out : Option Nat × Mm} (k2 : Nat → Int32 → Int32 → Mm → Option (Option Nat × Mm)) (hk2 : ∀ (b0 : Nat) (b1 : Int32) (b2 : Int32)  (M : Mm), DP dn M → k2 b0 b1 b2 M = some out → DP dn out.2) (a0 : Nat) (a1 : Int32) (a2 : Int32)  (M : Mm) (hB : DP dn M) (h : fX16_packet_L40 fu k2 a0 a1 a2 M = some out) : DP dn out.2 := by
  unfold fX16_packet_L40 at h
  exact hk2 a0 a1 (a2 + (1 : Int32)) M hB h
theorem dX16_packet_L2 (fu : Nat) {dn : Nat} {out : Option Nat × Mm}   : ∀ (n : Nat) (a0 : Nat) (a1 : Int32) (a2 : Int32)  (M : Mm), DP dn M → fX16_packet_L2 fu  n a0 a1 a2 M = some out → DP dn out.2 := by
  intro n
  induction n with
  | zero =>
    intro a0 a1 a2 M hB h
    have h : (none : Option (Option Nat × Mm)) = some out := h
    cases h
  | succ n ih =>
    intro a0 a1 a2 M hB h
    rw [fX16_packet_L2] at h
    by_cases hc : (8 : Int32) ≤ a2
    · have h := (if_pos hc).symm.trans h
      obtain rfl := Option.some.inj h
      exact hB
    · have h := (if_neg hc).symm.trans h
      obtain ⟨v1, ev1, h⟩ := bd h
      obtain ⟨v2, ev2, h⟩ := bd h
      obtain ⟨v3, ev3, h⟩ := bd h
      by_cases hc : v3 = 0
      · have h := (if_pos hc).symm.trans h
        exact dX16_packet_L40 fu (fun b0 b1 b2 M => fX16_packet_L2 fu  n b0 b1 b2 M) ih  a0 a1 a2 M hB h
      · have h := (if_neg hc).symm.trans h
        obtain ⟨v4, ev4, h⟩ := bd h
        obtain ⟨v5, ev5, h⟩ := bd h
        obtain ⟨v6, ev6, h⟩ := bd h
        by_cases hc : v6 = a1
        · have h := (if_pos hc).symm.trans h
          obtain ⟨v7, ev7, h⟩ := bd h
          obtain ⟨v8, ev8, h⟩ := bd h
          obtain rfl := Option.some.inj h
          exact hB
        · have h := (if_neg hc).symm.trans h
          exact dX16_packet_L40 fu (fun b0 b1 b2 M => fX16_packet_L2 fu  n b0 b1 b2 M) ih  a0 a1 a2 M hB h
theorem dX16_packet (fu : Nat) {dn : Nat} {out : Option Nat × Mm}   (a0 : Nat) (a1 : Int32)  (M : Mm) (hB : DP dn M) (h : fX16_packet fu  a0 a1 M = some out) : DP dn out.2 := by
  unfold fX16_packet at h
  exact dX16_packet_L2 fu   fu a0 a1 (0 : Int32) M hB h
theorem dX16_remember_L151 (fu : Nat) {dn : Nat} {out : Mm}   : ∀ (n : Nat) (a0 : Nat) (a2 : Int32) (a3 : Int32) (a5 : Option Nat) (a6 : Int32)  (M : Mm), DP dn M → fX16_remember_L151 fu  n a0 a2 a3 a5 a6 M = some out → DP dn out := by
  intro n
  induction n with
  | zero =>
    intro a0 a2 a3 a5 a6 M hB h
    have h : (none : Option (Mm)) = some out := h
    cases h
  | succ n ih =>
    intro a0 a2 a3 a5 a6 M hB h
    rw [fX16_remember_L151] at h
    obtain ⟨v1, ev1, h⟩ := bd h
    by_cases hc : v1 ≤ a6
    · have h := (if_pos hc).symm.trans h
      obtain ⟨v2, ev2, h⟩ := bd h
      obtain ⟨q3, eq3, h⟩ := bd h
      obtain ⟨M4, eM4, h⟩ := bd h
      have hB := dX16_send fu q3 a2 a3 (2048 : Int32) v2 M hB eM4
      obtain rfl := Option.some.inj h
      exact hB
    · have h := (if_neg hc).symm.trans h
      obtain ⟨v5, ev5, h⟩ := bd h
      obtain ⟨v6, ev6, h⟩ := bd h
      obtain ⟨v7, ev7, h⟩ := bd h
      obtain ⟨M8, eM8, h⟩ := bd h
      have hB := d_pA hB eM8
      exact ih a0 a2 a3 a5 (a6 + (1 : Int32)) M8 hB h
theorem dX16_remember_L96 (fu : Nat) {dn : Nat} {out : Mm}   (a0 : Nat) (a1 : Int32) (a2 : Int32) (a3 : Int32) (a4 : Option Nat)  (M : Mm) (hB : DP dn M) (h : fX16_remember_L96 fu  a0 a1 a2 a3 a4 M = some out) : DP dn out := by
  unfold fX16_remember_L96 at h
  obtain ⟨M1, eM1, h⟩ := bd h
  have hB := d_pZ hB eM1 (by decide)
  obtain ⟨M2, eM2, h⟩ := bd h
  have hB := d_pF hB eM2 (by decide)
  obtain ⟨M3, eM3, h⟩ := bd h
  have hB := d_pF hB eM3 (by decide)
  obtain ⟨M4, eM4, h⟩ := bd h
  have hB := d_pF hB eM4 (by decide)
  obtain ⟨v5, ev5, h⟩ := bd h
  obtain ⟨M6, eM6, h⟩ := bd h
  have hB := d_pF hB eM6 (by decide)
  obtain ⟨q7, eq7, h⟩ := bd h
  obtain ⟨v9, M8, eM8, h⟩ := b2d h
  have hB := dX16_packet fu q7 a1 M6 hB eM8
  by_cases hc : v9 = none
  · have h := (if_pos hc).symm.trans h
    obtain rfl := Option.some.inj h
    exact hB
  · have h := (if_neg hc).symm.trans h
    obtain ⟨M10, eM10, h⟩ := bd h
    have hB := d_pZ hB eM10 (by decide)
    exact dX16_remember_L151 fu   fu a0 a2 a3 v9 (0 : Int32) M10 hB h
theorem dX16_remember_L90 (fu : Nat) {dn : Nat} {out : Mm} (k23 : Nat → Int32 → Int32 → Int32 → Option Nat → Int32 → Mm → Option (Mm)) (hk23 : ∀ (b0 : Nat) (b1 : Int32) (b2 : Int32) (b3 : Int32) (b4 : Option Nat) (b5 : Int32)  (M : Mm), DP dn M → k23 b0 b1 b2 b3 b4 b5 M = some out → DP dn out) (a0 : Nat) (a1 : Int32) (a2 : Int32) (a3 : Int32) (a4 : Option Nat) (a5 : Int32)  (M : Mm) (hB : DP dn M) (h : fX16_remember_L90 fu k23 a0 a1 a2 a3 a4 a5 M = some out) : DP dn out := by
  unfold fX16_remember_L90 at h
  exact hk23 a0 a1 a2 a3 a4 (a5 + (1 : Int32)) M hB h
theorem dX16_remember_L81 (fu : Nat) {dn : Nat} {out : Mm} (k23 : Nat → Int32 → Int32 → Int32 → Option Nat → Int32 → Mm → Option (Mm)) (hk23 : ∀ (b0 : Nat) (b1 : Int32) (b2 : Int32) (b3 : Int32) (b4 : Option Nat) (b5 : Int32)  (M : Mm), DP dn M → k23 b0 b1 b2 b3 b4 b5 M = some out → DP dn out) (a0 : Nat) (a1 : Int32) (a2 : Int32) (a3 : Int32) (a5 : Int32)  (M : Mm) (hB : DP dn M) (h : fX16_remember_L81 fu k23 a0 a1 a2 a3 a5 M = some out) : DP dn out := by
  unfold fX16_remember_L81 at h
  obtain ⟨v1, ev1, h⟩ := bd h
  obtain ⟨v2, ev2, h⟩ := bd h
  exact dX16_remember_L90 fu k23 hk23  a0 a1 a2 a3 v2 a5 M hB h
theorem dX16_remember_L48 (fu : Nat) {dn : Nat} {out : Mm} (k23 : Nat → Int32 → Int32 → Int32 → Option Nat → Int32 → Mm → Option (Mm)) (hk23 : ∀ (b0 : Nat) (b1 : Int32) (b2 : Int32) (b3 : Int32) (b4 : Option Nat) (b5 : Int32)  (M : Mm), DP dn M → k23 b0 b1 b2 b3 b4 b5 M = some out → DP dn out) (a0 : Nat) (a1 : Int32) (a2 : Int32) (a3 : Int32) (a4 : Option Nat) (a5 : Int32) (s0 : Int32) (M : Mm) (hB : DP dn M) (h : fX16_remember_L48 fu k23 a0 a1 a2 a3 a4 a5 s0 M = some out) : DP dn out := by
  unfold fX16_remember_L48 at h
  obtain ⟨v1, ev1, h⟩ := bd h
  by_cases hc : v1 = 0
  · have h := (if_pos hc).symm.trans h
    exact dX16_remember_L90 fu k23 hk23  a0 a1 a2 a3 a4 a5 M hB h
  · have h := (if_neg hc).symm.trans h
    by_cases hc : s0 = 0
    · have h := (if_pos hc).symm.trans h
      obtain ⟨v2, ev2, h⟩ := bd h
      obtain ⟨v3, ev3, h⟩ := bd h
      obtain ⟨v4, ev4, h⟩ := bd h
      obtain ⟨v5, ev5, h⟩ := bd h
      by_cases hc : v5 ≤ v4
      · have h := (if_pos hc).symm.trans h
        exact dX16_remember_L90 fu k23 hk23  a0 a1 a2 a3 a4 a5 M hB h
      · have h := (if_neg hc).symm.trans h
        exact dX16_remember_L81 fu k23 hk23  a0 a1 a2 a3 a5 M hB h
    · have h := (if_neg hc).symm.trans h
      exact dX16_remember_L81 fu k23 hk23  a0 a1 a2 a3 a5 M hB h
theorem dX16_remember_L23 (fu : Nat) {dn : Nat} {out : Mm}   : ∀ (n : Nat) (a0 : Nat) (a1 : Int32) (a2 : Int32) (a3 : Int32) (a4 : Option Nat) (a5 : Int32)  (M : Mm), DP dn M → fX16_remember_L23 fu  n a0 a1 a2 a3 a4 a5 M = some out → DP dn out := by
  intro n
  induction n with
  | zero =>
    intro a0 a1 a2 a3 a4 a5 M hB h
    have h : (none : Option (Mm)) = some out := h
    cases h
  | succ n ih =>
    intro a0 a1 a2 a3 a4 a5 M hB h
    rw [fX16_remember_L23] at h
    by_cases hc : (16 : Int32) ≤ a5
    · have h := (if_pos hc).symm.trans h
      exact dX16_remember_L96 fu    a0 a1 a2 a3 a4 M hB h
    · have h := (if_neg hc).symm.trans h
      obtain ⟨v1, ev1, h⟩ := bd h
      obtain ⟨v2, ev2, h⟩ := bd h
      obtain ⟨v3, ev3, h⟩ := bd h
      by_cases hc : v3 = 0
      · have h := (if_pos hc).symm.trans h
        exact dX16_remember_L48 fu (fun b0 b1 b2 b3 b4 b5 M => fX16_remember_L23 fu  n b0 b1 b2 b3 b4 b5 M) ih  a0 a1 a2 a3 a4 a5 (1 : Int32) M hB h
      · have h := (if_neg hc).symm.trans h
        exact dX16_remember_L48 fu (fun b0 b1 b2 b3 b4 b5 M => fX16_remember_L23 fu  n b0 b1 b2 b3 b4 b5 M) ih  a0 a1 a2 a3 a4 a5 (0 : Int32) M hB h
theorem dX16_remember (fu : Nat) {dn : Nat} {out : Mm}   (a0 : Nat) (a1 : Int32) (a2 : Int32) (a3 : Int32)  (M : Mm) (hB : DP dn M) (h : fX16_remember fu  a0 a1 a2 a3 M = some out) : DP dn out := by
  unfold fX16_remember at h
  obtain ⟨q1, eq1, h⟩ := bd h
  obtain ⟨v3, M2, eM2, h⟩ := b2d h
  have hB := dX16_entry fu q1 a1 M hB eM2
  by_cases hc : v3 = none
  · have h := (if_pos hc).symm.trans h
    obtain ⟨v4, ev4, h⟩ := bd h
    obtain ⟨v5, ev5, h⟩ := bd h
    exact dX16_remember_L23 fu   fu a0 a1 a2 a3 v5 (1 : Int32) M2 hB h
  · have h := (if_neg hc).symm.trans h
    exact dX16_remember_L96 fu    a0 a1 a2 a3 v3 M2 hB h
theorem dX16_arpFrame (fu : Nat) {dn : Nat} {out : Mm}   (a0 : Nat) (a1 : Int32) (a2 : Int32) (a3 : Int32) (a4 : Int32) (a5 : Int32) (a6 : Int32)  (M : Mm) (hB : DP dn M) (h : fX16_arpFrame fu  a0 a1 a2 a3 a4 a5 a6 M = some out) : DP dn out := by
  unfold fX16_arpFrame at h
  obtain ⟨q1, eq1, h⟩ := bd h
  obtain ⟨M2, eM2, h⟩ := bd h
  have hB := dX16_put fu q1 (14 : Int32) (4 : Int32) (67584 : Int32) M hB eM2
  obtain ⟨q3, eq3, h⟩ := bd h
  obtain ⟨M4, eM4, h⟩ := bd h
  have hB := dX16_put fu q3 (18 : Int32) (2 : Int32) (1540 : Int32) M2 hB eM4
  obtain ⟨q5, eq5, h⟩ := bd h
  obtain ⟨M6, eM6, h⟩ := bd h
  have hB := dX16_put fu q5 (20 : Int32) (2 : Int32) a1 M4 hB eM6
  obtain ⟨v7, ev7, h⟩ := bd h
  obtain ⟨q8, eq8, h⟩ := bd h
  obtain ⟨M9, eM9, h⟩ := bd h
  have hB := dX16_put fu q8 (22 : Int32) (2 : Int32) v7 M6 hB eM9
  obtain ⟨v10, ev10, h⟩ := bd h
  obtain ⟨q11, eq11, h⟩ := bd h
  obtain ⟨M12, eM12, h⟩ := bd h
  have hB := dX16_put fu q11 (24 : Int32) (4 : Int32) v10 M9 hB eM12
  obtain ⟨v13, ev13, h⟩ := bd h
  obtain ⟨q14, eq14, h⟩ := bd h
  obtain ⟨M15, eM15, h⟩ := bd h
  have hB := dX16_put fu q14 (28 : Int32) (4 : Int32) v13 M12 hB eM15
  obtain ⟨q16, eq16, h⟩ := bd h
  obtain ⟨M17, eM17, h⟩ := bd h
  have hB := dX16_put fu q16 (32 : Int32) (2 : Int32) a4 M15 hB eM17
  obtain ⟨q18, eq18, h⟩ := bd h
  obtain ⟨M19, eM19, h⟩ := bd h
  have hB := dX16_put fu q18 (34 : Int32) (4 : Int32) a5 M17 hB eM19
  obtain ⟨q20, eq20, h⟩ := bd h
  obtain ⟨M21, eM21, h⟩ := bd h
  have hB := dX16_put fu q20 (38 : Int32) (4 : Int32) a6 M19 hB eM21
  obtain ⟨q22, eq22, h⟩ := bd h
  obtain ⟨M23, eM23, h⟩ := bd h
  have hB := dX16_send fu q22 a2 a3 (2054 : Int32) (28 : Int32) M21 hB eM23
  obtain rfl := Option.some.inj h
  exact hB
theorem dX16_ask (fu : Nat) {dn : Nat} {out : Mm}   (a0 : Nat) (a1 : Int32)  (M : Mm) (hB : DP dn M) (h : fX16_ask fu  a0 a1 M = some out) : DP dn out := by
  unfold fX16_ask at h
  obtain ⟨q1, eq1, h⟩ := bd h
  obtain ⟨M2, eM2, h⟩ := bd h
  have hB := dX16_arpFrame fu q1 (1 : Int32) (65535 : Int32) (-1 : Int32) (0 : Int32) (0 : Int32) a1 M hB eM2
  obtain rfl := Option.some.inj h
  exact hB
theorem dX16_trayHalf (fu : Nat) {dn : Nat} {out : Int32 × Mm}   (a0 : Nat) (a1 : Int32)  (M : Mm) (hB : DP dn M) (h : fX16_trayHalf fu  a0 a1 M = some out) : DP dn out.2 := by
  unfold fX16_trayHalf at h
  obtain ⟨v1, ev1, h⟩ := bd h
  obtain ⟨v2, ev2, h⟩ := bd h
  obtain ⟨v3, ev3, h⟩ := bd h
  obtain ⟨v4, ev4, h⟩ := bd h
  obtain rfl := Option.some.inj h
  exact hB
theorem dX16_trayWord (fu : Nat) {dn : Nat} {out : Int32 × Mm}   (a0 : Nat) (a1 : Int32)  (M : Mm) (hB : DP dn M) (h : fX16_trayWord fu  a0 a1 M = some out) : DP dn out.2 := by
  unfold fX16_trayWord at h
  obtain ⟨q1, eq1, h⟩ := bd h
  obtain ⟨v3, M2, eM2, h⟩ := b2d h
  have hB := dX16_trayHalf fu q1 a1 M hB eM2
  obtain ⟨q4, eq4, h⟩ := bd h
  obtain ⟨v6, M5, eM5, h⟩ := b2d h
  have hB := dX16_trayHalf fu q4 (a1 + (2 : Int32)) M2 hB eM5
  obtain rfl := Option.some.inj h
  exact hB
theorem dX16_arp_L116 (fu : Nat) {dn : Nat} {out : Mm}   (a0 : Nat) (a1 : Int32) (a2 : Int32) (a3 : Int32) (a4 : Int32) (a5 : Int32)  (M : Mm) (hB : DP dn M) (h : fX16_arp_L116 fu  a0 a1 a2 a3 a4 a5 M = some out) : DP dn out := by
  unfold fX16_arp_L116 at h
  by_cases hc : a1 = (1 : Int32)
  · have h := (if_pos hc).symm.trans h
    obtain ⟨v1, ev1, h⟩ := bd h
    by_cases hc : a5 = v1
    · have h := (if_pos hc).symm.trans h
      obtain ⟨q2, eq2, h⟩ := bd h
      obtain ⟨M3, eM3, h⟩ := bd h
      have hB := dX16_arpFrame fu q2 (2 : Int32) a2 a3 a2 a3 a4 M hB eM3
      obtain rfl := Option.some.inj h
      exact hB
    · have h := (if_neg hc).symm.trans h
      obtain rfl := Option.some.inj h
      exact hB
  · have h := (if_neg hc).symm.trans h
    obtain rfl := Option.some.inj h
    exact hB
theorem dX16_arp_L108 (fu : Nat) {dn : Nat} {out : Mm}   (a0 : Nat) (a1 : Int32) (a2 : Int32) (a3 : Int32) (a4 : Int32) (a5 : Int32)  (M : Mm) (hB : DP dn M) (h : fX16_arp_L108 fu  a0 a1 a2 a3 a4 a5 M = some out) : DP dn out := by
  unfold fX16_arp_L108 at h
  obtain ⟨q1, eq1, h⟩ := bd h
  obtain ⟨M2, eM2, h⟩ := bd h
  have hB := dX16_remember fu q1 a4 a2 a3 M hB eM2
  exact dX16_arp_L116 fu    a0 a1 a2 a3 a4 a5 M2 hB h
theorem dX16_arp_L51 (fu : Nat) {dn : Nat} {out : Mm}   (a0 : Nat) (a1 : Int32)  (M : Mm) (hB : DP dn M) (h : fX16_arp_L51 fu  a0 a1 M = some out) : DP dn out := by
  unfold fX16_arp_L51 at h
  obtain ⟨q1, eq1, h⟩ := bd h
  obtain ⟨v3, M2, eM2, h⟩ := b2d h
  have hB := dX16_trayHalf fu q1 (22 : Int32) M hB eM2
  obtain ⟨q4, eq4, h⟩ := bd h
  obtain ⟨v6, M5, eM5, h⟩ := b2d h
  have hB := dX16_trayWord fu q4 (24 : Int32) M2 hB eM5
  obtain ⟨q7, eq7, h⟩ := bd h
  obtain ⟨v9, M8, eM8, h⟩ := b2d h
  have hB := dX16_trayWord fu q7 (28 : Int32) M5 hB eM8
  obtain ⟨q10, eq10, h⟩ := bd h
  obtain ⟨v12, M11, eM11, h⟩ := b2d h
  have hB := dX16_trayWord fu q10 (38 : Int32) M8 hB eM11
  obtain ⟨q13, eq13, h⟩ := bd h
  obtain ⟨v15, M14, eM14, h⟩ := b2d h
  have hB := dX16_entry fu q13 v9 M11 hB eM14
  by_cases hc : v15 = none
  · have h := (if_pos hc).symm.trans h
    obtain ⟨v16, ev16, h⟩ := bd h
    by_cases hc : v12 = v16
    · have h := (if_pos hc).symm.trans h
      obtain ⟨v17, ev17, h⟩ := bd h
      by_cases hc : v9 = v17
      · have h := (if_pos hc).symm.trans h
        exact dX16_arp_L116 fu    a0 a1 v3 v6 v9 v12 M14 hB h
      · have h := (if_neg hc).symm.trans h
        exact dX16_arp_L108 fu    a0 a1 v3 v6 v9 v12 M14 hB h
    · have h := (if_neg hc).symm.trans h
      exact dX16_arp_L116 fu    a0 a1 v3 v6 v9 v12 M14 hB h
  · have h := (if_neg hc).symm.trans h
    exact dX16_arp_L108 fu    a0 a1 v3 v6 v9 v12 M14 hB h
theorem dX16_arp (fu : Nat) {dn : Nat} {out : Mm}   (a0 : Nat)  (M : Mm) (hB : DP dn M) (h : fX16_arp fu  a0 M = some out) : DP dn out := by
  unfold fX16_arp at h
  obtain ⟨v1, ev1, h⟩ := bd h
  by_cases hc : v1 < (42 : Int32)
  · have h := (if_pos hc).symm.trans h
    obtain rfl := Option.some.inj h
    exact hB
  · have h := (if_neg hc).symm.trans h
    obtain ⟨q2, eq2, h⟩ := bd h
    obtain ⟨v4, M3, eM3, h⟩ := b2d h
    have hB := dX16_trayWord fu q2 (14 : Int32) M hB eM3
    by_cases hc : v4 = (67584 : Int32)
    · have h := (if_pos hc).symm.trans h
      obtain ⟨q5, eq5, h⟩ := bd h
      obtain ⟨v7, M6, eM6, h⟩ := b2d h
      have hB := dX16_trayHalf fu q5 (18 : Int32) M3 hB eM6
      by_cases hc : v7 = (1540 : Int32)
      · have h := (if_pos hc).symm.trans h
        obtain ⟨q8, eq8, h⟩ := bd h
        obtain ⟨v10, M9, eM9, h⟩ := b2d h
        have hB := dX16_trayHalf fu q8 (20 : Int32) M6 hB eM9
        by_cases hc : v10 = (1 : Int32)
        · have h := (if_pos hc).symm.trans h
          exact dX16_arp_L51 fu    a0 v10 M9 hB h
        · have h := (if_neg hc).symm.trans h
          by_cases hc : v10 = (2 : Int32)
          · have h := (if_pos hc).symm.trans h
            exact dX16_arp_L51 fu    a0 v10 M9 hB h
          · have h := (if_neg hc).symm.trans h
            obtain rfl := Option.some.inj h
            exact hB
      · have h := (if_neg hc).symm.trans h
        obtain rfl := Option.some.inj h
        exact hB
    · have h := (if_neg hc).symm.trans h
      obtain rfl := Option.some.inj h
      exact hB
theorem dX16_ipOut_L271 (fu : Nat) {dn : Nat} {out : Mm}   : ∀ (n : Nat) (a0 : Nat) (a4 : Int32) (a6 : Option Nat) (a7 : Int32) (a8 : Int32)  (M : Mm), DP dn M → fX16_ipOut_L271 fu  n a0 a4 a6 a7 a8 M = some out → DP dn out := by
  intro n
  induction n with
  | zero =>
    intro a0 a4 a6 a7 a8 M hB h
    have h : (none : Option (Mm)) = some out := h
    cases h
  | succ n ih =>
    intro a0 a4 a6 a7 a8 M hB h
    rw [fX16_ipOut_L271] at h
    obtain ⟨v1, ev1, h⟩ := bd h
    by_cases hc : v1 ≤ a8
    · have h := (if_pos hc).symm.trans h
      by_cases hc : a7 = 0
      · have h := (if_pos hc).symm.trans h
        obtain rfl := Option.some.inj h
        exact hB
      · have h := (if_neg hc).symm.trans h
        obtain ⟨v2, ev2, h⟩ := bd h
        obtain ⟨M3, eM3, h⟩ := bd h
        have hB := d_pF hB eM3 (by decide)
        obtain ⟨M4, eM4, h⟩ := bd h
        have hB := d_pF hB eM4 (by decide)
        obtain ⟨v5, ev5, h⟩ := bd h
        obtain ⟨M6, eM6, h⟩ := bd h
        have hB := d_pF hB eM6 (by decide)
        obtain ⟨v7, ev7, h⟩ := bd h
        obtain ⟨M8, eM8, h⟩ := bd h
        have hB := d_pF hB eM8 (by decide)
        obtain ⟨q9, eq9, h⟩ := bd h
        obtain ⟨M10, eM10, h⟩ := bd h
        have hB := dX16_ask fu q9 a4 M8 hB eM10
        obtain rfl := Option.some.inj h
        exact hB
    · have h := (if_neg hc).symm.trans h
      obtain ⟨v11, ev11, h⟩ := bd h
      obtain ⟨v12, ev12, h⟩ := bd h
      obtain ⟨v13, ev13, h⟩ := bd h
      obtain ⟨M14, eM14, h⟩ := bd h
      have hB := d_pA hB eM14
      exact ih a0 a4 a6 a7 (a8 + (1 : Int32)) M14 hB h
theorem dX16_ipOut_L240 (fu : Nat) {dn : Nat} {out : Mm}   (a0 : Nat) (a3 : Int32) (a4 : Int32) (a6 : Option Nat) (a7 : Int32)  (M : Mm) (hB : DP dn M) (h : fX16_ipOut_L240 fu  a0 a3 a4 a6 a7 M = some out) : DP dn out := by
  unfold fX16_ipOut_L240 at h
  by_cases hc : a6 = none
  · have h := (if_pos hc).symm.trans h
    obtain rfl := Option.some.inj h
    exact hB
  · have h := (if_neg hc).symm.trans h
    obtain ⟨M1, eM1, h⟩ := bd h
    have hB := d_pZ hB eM1 (by decide)
    obtain ⟨M2, eM2, h⟩ := bd h
    have hB := d_pF hB eM2 (by decide)
    obtain ⟨M3, eM3, h⟩ := bd h
    have hB := d_pF hB eM3 (by decide)
    exact dX16_ipOut_L271 fu   fu a0 a4 a6 a7 (0 : Int32) M3 hB h
theorem dX16_ipOut_L234 (fu : Nat) {dn : Nat} {out : Mm} (k200 : Nat → Int32 → Int32 → Option Nat → Int32 → Int32 → Mm → Option (Mm)) (hk200 : ∀ (b0 : Nat) (b3 : Int32) (b4 : Int32) (b6 : Option Nat) (b7 : Int32) (b8 : Int32)  (M : Mm), DP dn M → k200 b0 b3 b4 b6 b7 b8 M = some out → DP dn out) (a0 : Nat) (a3 : Int32) (a4 : Int32) (a6 : Option Nat) (a7 : Int32) (a8 : Int32)  (M : Mm) (hB : DP dn M) (h : fX16_ipOut_L234 fu k200 a0 a3 a4 a6 a7 a8 M = some out) : DP dn out := by
  unfold fX16_ipOut_L234 at h
  exact hk200 a0 a3 a4 a6 a7 (a8 + (1 : Int32)) M hB h
theorem dX16_ipOut_L200 (fu : Nat) {dn : Nat} {out : Mm}   : ∀ (n : Nat) (a0 : Nat) (a3 : Int32) (a4 : Int32) (a6 : Option Nat) (a7 : Int32) (a8 : Int32)  (M : Mm), DP dn M → fX16_ipOut_L200 fu  n a0 a3 a4 a6 a7 a8 M = some out → DP dn out := by
  intro n
  induction n with
  | zero =>
    intro a0 a3 a4 a6 a7 a8 M hB h
    have h : (none : Option (Mm)) = some out := h
    cases h
  | succ n ih =>
    intro a0 a3 a4 a6 a7 a8 M hB h
    rw [fX16_ipOut_L200] at h
    by_cases hc : (8 : Int32) ≤ a8
    · have h := (if_pos hc).symm.trans h
      exact dX16_ipOut_L240 fu    a0 a3 a4 a6 a7 M hB h
    · have h := (if_neg hc).symm.trans h
      by_cases hc : a6 = none
      · have h := (if_pos hc).symm.trans h
        obtain ⟨v1, ev1, h⟩ := bd h
        obtain ⟨v2, ev2, h⟩ := bd h
        obtain ⟨v3, ev3, h⟩ := bd h
        by_cases hc : v3 = 0
        · have h := (if_pos hc).symm.trans h
          obtain ⟨v4, ev4, h⟩ := bd h
          obtain ⟨v5, ev5, h⟩ := bd h
          exact dX16_ipOut_L234 fu (fun b0 b3 b4 b6 b7 b8 M => fX16_ipOut_L200 fu  n b0 b3 b4 b6 b7 b8 M) ih  a0 a3 a4 v5 a7 a8 M hB h
        · have h := (if_neg hc).symm.trans h
          exact dX16_ipOut_L234 fu (fun b0 b3 b4 b6 b7 b8 M => fX16_ipOut_L200 fu  n b0 b3 b4 b6 b7 b8 M) ih  a0 a3 a4 a6 a7 a8 M hB h
      · have h := (if_neg hc).symm.trans h
        exact dX16_ipOut_L240 fu    a0 a3 a4 a6 a7 M hB h
theorem dX16_ipOut_L195 (fu : Nat) {dn : Nat} {out : Mm}   (a0 : Nat) (a3 : Int32) (a4 : Int32) (a6 : Option Nat) (s0 : Int32) (M : Mm) (hB : DP dn M) (h : fX16_ipOut_L195 fu  a0 a3 a4 a6 s0 M = some out) : DP dn out := by
  unfold fX16_ipOut_L195 at h
  exact dX16_ipOut_L200 fu   fu a0 a3 a4 a6 s0 (0 : Int32) M hB h
theorem dX16_ipOut_L140 (fu : Nat) {dn : Nat} {out : Mm}   (a0 : Nat) (a3 : Int32) (s0 : Int32) (M : Mm) (hB : DP dn M) (h : fX16_ipOut_L140 fu  a0 a3 s0 M = some out) : DP dn out := by
  unfold fX16_ipOut_L140 at h
  obtain ⟨q1, eq1, h⟩ := bd h
  obtain ⟨v3, M2, eM2, h⟩ := b2d h
  have hB := dX16_counting fu q1 s0 M hB eM2
  by_cases hc : v3 = none
  · have h := (if_pos hc).symm.trans h
    obtain ⟨q4, eq4, h⟩ := bd h
    obtain ⟨v6, M5, eM5, h⟩ := b2d h
    have hB := dX16_packet fu q4 s0 M2 hB eM5
    by_cases hc : v6 = none
    · have h := (if_pos hc).symm.trans h
      exact dX16_ipOut_L195 fu    a0 a3 s0 v6 (1 : Int32) M5 hB h
    · have h := (if_neg hc).symm.trans h
      exact dX16_ipOut_L195 fu    a0 a3 s0 v6 (0 : Int32) M5 hB h
  · have h := (if_neg hc).symm.trans h
    obtain ⟨v7, ev7, h⟩ := bd h
    obtain ⟨v8, ev8, h⟩ := bd h
    obtain ⟨q9, eq9, h⟩ := bd h
    obtain ⟨M10, eM10, h⟩ := bd h
    have hB := dX16_send fu q9 v7 v8 (2048 : Int32) ((20 : Int32) + a3) M2 hB eM10
    obtain rfl := Option.some.inj h
    exact hB
theorem dX16_ipOut (fu : Nat) {dn : Nat} {out : Mm}   (a0 : Nat) (a1 : Int32) (a2 : Int32) (a3 : Int32)  (M : Mm) (hB : DP dn M) (h : fX16_ipOut fu  a0 a1 a2 a3 M = some out) : DP dn out := by
  unfold fX16_ipOut at h
  obtain ⟨v1, ev1, h⟩ := bd h
  obtain ⟨M2, eM2, h⟩ := bd h
  have hB := d_pF hB eM2 (by decide)
  obtain ⟨q3, eq3, h⟩ := bd h
  obtain ⟨M4, eM4, h⟩ := bd h
  have hB := dX16_put fu q3 (14 : Int32) (2 : Int32) (17664 : Int32) M2 hB eM4
  obtain ⟨q5, eq5, h⟩ := bd h
  obtain ⟨M6, eM6, h⟩ := bd h
  have hB := dX16_put fu q5 (16 : Int32) (2 : Int32) ((20 : Int32) + a3) M4 hB eM6
  obtain ⟨v7, ev7, h⟩ := bd h
  obtain ⟨q8, eq8, h⟩ := bd h
  obtain ⟨M9, eM9, h⟩ := bd h
  have hB := dX16_put fu q8 (18 : Int32) (2 : Int32) v7 M6 hB eM9
  obtain ⟨q10, eq10, h⟩ := bd h
  obtain ⟨M11, eM11, h⟩ := bd h
  have hB := dX16_put fu q10 (20 : Int32) (2 : Int32) (16384 : Int32) M9 hB eM11
  obtain ⟨q12, eq12, h⟩ := bd h
  obtain ⟨M13, eM13, h⟩ := bd h
  have hB := dX16_put fu q12 (22 : Int32) (2 : Int32) ((16384 : Int32) ||| a2) M11 hB eM13
  obtain ⟨q14, eq14, h⟩ := bd h
  obtain ⟨M15, eM15, h⟩ := bd h
  have hB := dX16_put fu q14 (24 : Int32) (2 : Int32) (0 : Int32) M13 hB eM15
  obtain ⟨v16, ev16, h⟩ := bd h
  obtain ⟨q17, eq17, h⟩ := bd h
  obtain ⟨M18, eM18, h⟩ := bd h
  have hB := dX16_put fu q17 (26 : Int32) (4 : Int32) v16 M15 hB eM18
  obtain ⟨q19, eq19, h⟩ := bd h
  obtain ⟨M20, eM20, h⟩ := bd h
  have hB := dX16_put fu q19 (30 : Int32) (4 : Int32) a1 M18 hB eM20
  obtain ⟨v21, ev21, h⟩ := bd h
  obtain ⟨v23, M22, eM22, h⟩ := b2d h
  have hB := dX16_added fu  v21 (14 : Int32) (20 : Int32) (0 : Int64) M20 hB eM22
  obtain ⟨v25, M24, eM24, h⟩ := b2d h
  have hB := dX16_sixteen fu  v23 M22 hB eM24
  obtain ⟨q26, eq26, h⟩ := bd h
  obtain ⟨M27, eM27, h⟩ := bd h
  have hB := dX16_put fu q26 (24 : Int32) (2 : Int32) v25 M24 hB eM27
  obtain ⟨q28, eq28, h⟩ := bd h
  obtain ⟨v30, M29, eM29, h⟩ := b2d h
  have hB := dX16_net fu q28 a1 M27 hB eM29
  obtain ⟨v31, ev31, h⟩ := bd h
  obtain ⟨q32, eq32, h⟩ := bd h
  obtain ⟨v34, M33, eM33, h⟩ := b2d h
  have hB := dX16_net fu q32 v31 M29 hB eM33
  by_cases hc : v30 = v34
  · have h := (if_pos hc).symm.trans h
    exact dX16_ipOut_L140 fu    a0 a3 a1 M33 hB h
  · have h := (if_neg hc).symm.trans h
    obtain ⟨v35, ev35, h⟩ := bd h
    exact dX16_ipOut_L140 fu    a0 a3 v35 M33 hB h
theorem dX16_askAgain (fu : Nat) {dn : Nat} {out : Mm}   (a0 : Nat) (a1 : Option Nat)  (M : Mm) (hB : DP dn M) (h : fX16_askAgain fu  a0 a1 M = some out) : DP dn out := by
  unfold fX16_askAgain at h
  obtain ⟨v1, ev1, h⟩ := bd h
  by_cases hc : v1 = (3 : Int32)
  · have h := (if_pos hc).symm.trans h
    obtain ⟨M7, eM7, h⟩ := bd h
    have hB := d_pZ hB eM7 (by decide)
    obtain rfl := Option.some.inj h
    exact hB
  · have h := (if_neg hc).symm.trans h
    obtain ⟨v2, ev2, h⟩ := bd h
    obtain ⟨M3, eM3, h⟩ := bd h
    have hB := d_pF hB eM3 (by decide)
    obtain ⟨v4, ev4, h⟩ := bd h
    obtain ⟨q5, eq5, h⟩ := bd h
    obtain ⟨M6, eM6, h⟩ := bd h
    have hB := dX16_ask fu q5 v4 M3 hB eM6
    obtain rfl := Option.some.inj h
    exact hB
theorem dX16_echo_L52 (fu : Nat) {dn : Nat} {out : Mm}   : ∀ (n : Nat) (a0 : Nat) (a1 : Int32) (a2 : Int32)  (M : Mm), DP dn M → fX16_echo_L52 fu  n a0 a1 a2 M = some out → DP dn out := by
  intro n
  induction n with
  | zero =>
    intro a0 a1 a2 M hB h
    have h : (none : Option (Mm)) = some out := h
    cases h
  | succ n ih =>
    intro a0 a1 a2 M hB h
    rw [fX16_echo_L52] at h
    by_cases hc : a1 ≤ a2
    · have h := (if_pos hc).symm.trans h
      obtain ⟨q1, eq1, h⟩ := bd h
      obtain ⟨M2, eM2, h⟩ := bd h
      have hB := dX16_put fu q1 (34 : Int32) (1 : Int32) (0 : Int32) M hB eM2
      obtain ⟨q3, eq3, h⟩ := bd h
      obtain ⟨M4, eM4, h⟩ := bd h
      have hB := dX16_put fu q3 (36 : Int32) (2 : Int32) (0 : Int32) M2 hB eM4
      obtain ⟨v5, ev5, h⟩ := bd h
      obtain ⟨v7, M6, eM6, h⟩ := b2d h
      have hB := dX16_added fu  v5 (34 : Int32) a1 (0 : Int64) M4 hB eM6
      obtain ⟨v9, M8, eM8, h⟩ := b2d h
      have hB := dX16_sixteen fu  v7 M6 hB eM8
      obtain ⟨q10, eq10, h⟩ := bd h
      obtain ⟨M11, eM11, h⟩ := bd h
      have hB := dX16_put fu q10 (36 : Int32) (2 : Int32) v9 M8 hB eM11
      obtain ⟨v12, ev12, h⟩ := bd h
      obtain ⟨q13, eq13, h⟩ := bd h
      obtain ⟨M14, eM14, h⟩ := bd h
      have hB := dX16_ipOut fu q13 v12 (1 : Int32) a1 M11 hB eM14
      obtain rfl := Option.some.inj h
      exact hB
    · have h := (if_neg hc).symm.trans h
      obtain ⟨v15, ev15, h⟩ := bd h
      obtain ⟨v16, ev16, h⟩ := bd h
      obtain ⟨v17, ev17, h⟩ := bd h
      obtain ⟨M18, eM18, h⟩ := bd h
      have hB := d_pA hB eM18
      exact ih a0 a1 (a2 + (1 : Int32)) M18 hB h
theorem dX16_echo (fu : Nat) {dn : Nat} {out : Mm}   (a0 : Nat) (a1 : Int32)  (M : Mm) (hB : DP dn M) (h : fX16_echo fu  a0 a1 M = some out) : DP dn out := by
  unfold fX16_echo at h
  by_cases hc : a1 < (8 : Int32)
  · have h := (if_pos hc).symm.trans h
    obtain rfl := Option.some.inj h
    exact hB
  · have h := (if_neg hc).symm.trans h
    by_cases hc : (1480 : Int32) < a1
    · have h := (if_pos hc).symm.trans h
      obtain rfl := Option.some.inj h
      exact hB
    · have h := (if_neg hc).symm.trans h
      obtain ⟨v1, ev1, h⟩ := bd h
      obtain ⟨v3, M2, eM2, h⟩ := b2d h
      have hB := dX16_added fu  v1 (0 : Int32) a1 (0 : Int64) M hB eM2
      obtain ⟨v5, M4, eM4, h⟩ := b2d h
      have hB := dX16_sixteen fu  v3 M2 hB eM4
      by_cases hc : v5 = 0
      · have h := (if_pos hc).symm.trans h
        obtain ⟨v6, ev6, h⟩ := bd h
        obtain ⟨v7, ev7, h⟩ := bd h
        by_cases hc : v7 = (8 : Int32)
        · have h := (if_pos hc).symm.trans h
          obtain ⟨v8, ev8, h⟩ := bd h
          obtain ⟨v9, ev9, h⟩ := bd h
          by_cases hc : v9 = 0
          · have h := (if_pos hc).symm.trans h
            exact dX16_echo_L52 fu   fu a0 a1 (0 : Int32) M4 hB h
          · have h := (if_neg hc).symm.trans h
            obtain rfl := Option.some.inj h
            exact hB
        · have h := (if_neg hc).symm.trans h
          obtain rfl := Option.some.inj h
          exact hB
      · have h := (if_neg hc).symm.trans h
        obtain rfl := Option.some.inj h
        exact hB
theorem dX16_pseudo (fu : Nat) {dn : Nat} {out : Int64 × Mm}   (a0 : Nat) (a1 : Int32) (a2 : Int32) (a3 : Int32)  (M : Mm) (hB : DP dn M) (h : fX16_pseudo fu  a0 a1 a2 a3 M = some out) : DP dn out.2 := by
  unfold fX16_pseudo at h
  obtain rfl := Option.some.inj h
  exact hB
theorem dX16_half (fu : Nat) {dn : Nat} {out : Int32 × Mm}   (a0 : Nat) (a1 : Int32)  (M : Mm) (hB : DP dn M) (h : fX16_half fu  a0 a1 M = some out) : DP dn out.2 := by
  unfold fX16_half at h
  obtain ⟨v1, ev1, h⟩ := bd h
  obtain ⟨v2, ev2, h⟩ := bd h
  obtain ⟨v3, ev3, h⟩ := bd h
  obtain ⟨v4, ev4, h⟩ := bd h
  obtain rfl := Option.some.inj h
  exact hB
theorem dX16_wholeWord (fu : Nat) {dn : Nat} {out : Int32 × Mm}   (a0 : Nat) (a1 : Int32)  (M : Mm) (hB : DP dn M) (h : fX16_wholeWord fu  a0 a1 M = some out) : DP dn out.2 := by
  unfold fX16_wholeWord at h
  obtain ⟨q1, eq1, h⟩ := bd h
  obtain ⟨v3, M2, eM2, h⟩ := b2d h
  have hB := dX16_half fu q1 a1 M hB eM2
  obtain ⟨q4, eq4, h⟩ := bd h
  obtain ⟨v6, M5, eM5, h⟩ := b2d h
  have hB := dX16_half fu q4 (a1 + (2 : Int32)) M2 hB eM5
  obtain rfl := Option.some.inj h
  exact hB
theorem dX16_is (fu : Nat) {dn : Nat} {out : Int32 × Mm}   (a0 : Nat) (a1 : Int32)  (M : Mm) (hB : DP dn M) (h : fX16_is fu  a0 a1 M = some out) : DP dn out.2 := by
  unfold fX16_is at h
  obtain ⟨v1, ev1, h⟩ := bd h
  by_cases hc : (v1 &&& a1) = 0
  · have h := (if_pos hc).symm.trans h
    obtain ⟨hz, rfl⟩ := rN_some h
    exact hB
  · have h := (if_neg hc).symm.trans h
    obtain ⟨hz, rfl⟩ := rN_some h
    exact hB
theorem dX16_segmentOut_L91 (fu : Nat) {dn : Nat} {out : Mm}   (a0 : Nat) (a1 : Int32) (a8 : Int32) (a9 : Int32)  (M : Mm) (hB : DP dn M) (h : fX16_segmentOut_L91 fu  a0 a1 a8 a9 M = some out) : DP dn out := by
  unfold fX16_segmentOut_L91 at h
  obtain ⟨v1, ev1, h⟩ := bd h
  obtain ⟨v2, ev2, h⟩ := bd h
  obtain ⟨q3, eq3, h⟩ := bd h
  obtain ⟨v5, M4, eM4, h⟩ := b2d h
  have hB := dX16_pseudo fu q3 v2 a1 (((20 : Int32) + a8) + a9) M hB eM4
  obtain ⟨v7, M6, eM6, h⟩ := b2d h
  have hB := dX16_added fu  v1 (34 : Int32) (((20 : Int32) + a8) + a9) v5 M4 hB eM6
  obtain ⟨v9, M8, eM8, h⟩ := b2d h
  have hB := dX16_sixteen fu  v7 M6 hB eM8
  obtain ⟨q10, eq10, h⟩ := bd h
  obtain ⟨M11, eM11, h⟩ := bd h
  have hB := dX16_put fu q10 (50 : Int32) (2 : Int32) v9 M8 hB eM11
  obtain ⟨q12, eq12, h⟩ := bd h
  obtain ⟨M13, eM13, h⟩ := bd h
  have hB := dX16_ipOut fu q12 a1 (6 : Int32) (((20 : Int32) + a8) + a9) M11 hB eM13
  obtain rfl := Option.some.inj h
  exact hB
theorem dX16_segmentOut (fu : Nat) {dn : Nat} {out : Mm}   (a0 : Nat) (a1 : Int32) (a2 : Int32) (a3 : Int32) (a4 : Int32) (a5 : Int32) (a6 : Int32) (a7 : Int32) (a8 : Int32) (a9 : Int32)  (M : Mm) (hB : DP dn M) (h : fX16_segmentOut fu  a0 a1 a2 a3 a4 a5 a6 a7 a8 a9 M = some out) : DP dn out := by
  unfold fX16_segmentOut at h
  obtain ⟨q1, eq1, h⟩ := bd h
  obtain ⟨M2, eM2, h⟩ := bd h
  have hB := dX16_put fu q1 (34 : Int32) (2 : Int32) a2 M hB eM2
  obtain ⟨q3, eq3, h⟩ := bd h
  obtain ⟨M4, eM4, h⟩ := bd h
  have hB := dX16_put fu q3 (36 : Int32) (2 : Int32) a3 M2 hB eM4
  obtain ⟨q5, eq5, h⟩ := bd h
  obtain ⟨M6, eM6, h⟩ := bd h
  have hB := dX16_put fu q5 (38 : Int32) (4 : Int32) a4 M4 hB eM6
  obtain ⟨q7, eq7, h⟩ := bd h
  obtain ⟨M8, eM8, h⟩ := bd h
  have hB := dX16_put fu q7 (42 : Int32) (4 : Int32) a5 M6 hB eM8
  obtain ⟨q9, eq9, h⟩ := bd h
  obtain ⟨M10, eM10, h⟩ := bd h
  have hB := dX16_put fu q9 (46 : Int32) (1 : Int32) ((((20 : Int32) + a8) / (4 : Int32)) <<< ((4 : Int32) &&& 31)) M8 hB eM10
  obtain ⟨q11, eq11, h⟩ := bd h
  obtain ⟨M12, eM12, h⟩ := bd h
  have hB := dX16_put fu q11 (47 : Int32) (1 : Int32) a6 M10 hB eM12
  obtain ⟨q13, eq13, h⟩ := bd h
  obtain ⟨M14, eM14, h⟩ := bd h
  have hB := dX16_put fu q13 (48 : Int32) (2 : Int32) a7 M12 hB eM14
  obtain ⟨q15, eq15, h⟩ := bd h
  obtain ⟨M16, eM16, h⟩ := bd h
  have hB := dX16_put fu q15 (50 : Int32) (4 : Int32) (0 : Int32) M14 hB eM16
  by_cases hc : a8 ≤ 0
  · have h := (if_pos hc).symm.trans h
    exact dX16_segmentOut_L91 fu    a0 a1 a8 a9 M16 hB h
  · have h := (if_neg hc).symm.trans h
    obtain ⟨q17, eq17, h⟩ := bd h
    obtain ⟨M18, eM18, h⟩ := bd h
    have hB := dX16_put fu q17 (54 : Int32) (4 : Int32) (33818036 : Int32) M16 hB eM18
    exact dX16_segmentOut_L91 fu    a0 a1 a8 a9 M18 hB h
theorem dX16_extent_L17 (fu : Nat) {dn : Nat} {out : Int32 × Mm}   (a0 : Nat) (s0 : Int32) (s1 : Int32) (M : Mm) (hB : DP dn M) (h : fX16_extent_L17 fu  a0 s0 s1 M = some out) : DP dn out.2 := by
  unfold fX16_extent_L17 at h
  obtain ⟨q1, eq1, h⟩ := bd h
  obtain ⟨v3, M2, eM2, h⟩ := b2d h
  have hB := dX16_is fu q1 (1 : Int32) M hB eM2
  by_cases hc : v3 = 0
  · have h := (if_pos hc).symm.trans h
    obtain rfl := Option.some.inj h
    exact hB
  · have h := (if_neg hc).symm.trans h
    obtain rfl := Option.some.inj h
    exact hB
theorem dX16_extent (fu : Nat) {dn : Nat} {out : Int32 × Mm}   (a0 : Nat)  (M : Mm) (hB : DP dn M) (h : fX16_extent fu  a0 M = some out) : DP dn out.2 := by
  unfold fX16_extent at h
  obtain ⟨v1, ev1, h⟩ := bd h
  obtain ⟨q2, eq2, h⟩ := bd h
  obtain ⟨v4, M3, eM3, h⟩ := b2d h
  have hB := dX16_is fu q2 (2 : Int32) M hB eM3
  by_cases hc : v4 = 0
  · have h := (if_pos hc).symm.trans h
    exact dX16_extent_L17 fu    a0 v1 (0 : Int32) M3 hB h
  · have h := (if_neg hc).symm.trans h
    exact dX16_extent_L17 fu    a0 v1 (1 : Int32) M3 hB h
theorem dX16_reset (fu : Nat) {dn : Nat} {out : Mm}   (a0 : Nat)  (M : Mm) (hB : DP dn M) (h : fX16_reset fu  a0 M = some out) : DP dn out := by
  unfold fX16_reset at h
  obtain ⟨v1, ev1, h⟩ := bd h
  obtain ⟨v2, ev2, h⟩ := bd h
  obtain ⟨M3, eM3, h⟩ := bd h
  have hB := d_pA hB eM3
  obtain ⟨q4, eq4, h⟩ := bd h
  obtain ⟨v6, M5, eM5, h⟩ := b2d h
  have hB := dX16_is fu q4 (16 : Int32) M3 hB eM5
  by_cases hc : v6 = 0
  · have h := (if_pos hc).symm.trans h
    obtain ⟨v7, ev7, h⟩ := bd h
    obtain ⟨v8, ev8, h⟩ := bd h
    obtain ⟨v9, ev9, h⟩ := bd h
    obtain ⟨v10, ev10, h⟩ := bd h
    obtain ⟨q11, eq11, h⟩ := bd h
    obtain ⟨v13, M12, eM12, h⟩ := b2d h
    have hB := dX16_extent fu q11  M5 hB eM12
    obtain ⟨q14, eq14, h⟩ := bd h
    obtain ⟨M15, eM15, h⟩ := bd h
    have hB := dX16_segmentOut fu q14 v7 v8 v9 (0 : Int32) (v10 + v13) (20 : Int32) (0 : Int32) (0 : Int32) (0 : Int32) M12 hB eM15
    obtain rfl := Option.some.inj h
    exact hB
  · have h := (if_neg hc).symm.trans h
    obtain ⟨v16, ev16, h⟩ := bd h
    obtain ⟨v17, ev17, h⟩ := bd h
    obtain ⟨v18, ev18, h⟩ := bd h
    obtain ⟨v19, ev19, h⟩ := bd h
    obtain ⟨q20, eq20, h⟩ := bd h
    obtain ⟨M21, eM21, h⟩ := bd h
    have hB := dX16_segmentOut fu q20 v16 v17 v18 v19 (0 : Int32) (4 : Int32) (0 : Int32) (0 : Int32) (0 : Int32) M5 hB eM21
    obtain rfl := Option.some.inj h
    exact hB
theorem dX16_optionMss_L116 (fu : Nat) {dn : Nat} {out : Int32 × Mm} (k3 : Nat → Int32 → Mm → Option (Int32 × Mm)) (hk3 : ∀ (b0 : Nat) (b1 : Int32)  (M : Mm), DP dn M → k3 b0 b1 M = some out → DP dn out.2) (a0 : Nat) (a1 : Int32)  (M : Mm) (hB : DP dn M) (h : fX16_optionMss_L116 fu k3 a0 a1 M = some out) : DP dn out.2 := by
  unfold fX16_optionMss_L116 at h
  exact hk3 a0 a1 M hB h
theorem dX16_optionMss_L112 (fu : Nat) {dn : Nat} {out : Int32 × Mm} (k3 : Nat → Int32 → Mm → Option (Int32 × Mm)) (hk3 : ∀ (b0 : Nat) (b1 : Int32)  (M : Mm), DP dn M → k3 b0 b1 M = some out → DP dn out.2) (a0 : Nat) (a1 : Int32) (a3 : Int32)  (M : Mm) (hB : DP dn M) (h : fX16_optionMss_L112 fu k3 a0 a1 a3 M = some out) : DP dn out.2 := by
  unfold fX16_optionMss_L112 at h
  exact dX16_optionMss_L116 fu k3 hk3  a0 (a1 + a3) M hB h
theorem dX16_optionMss_L3 (fu : Nat) {dn : Nat} {out : Int32 × Mm}   : ∀ (n : Nat) (a0 : Nat) (a1 : Int32)  (M : Mm), DP dn M → fX16_optionMss_L3 fu  n a0 a1 M = some out → DP dn out.2 := by
  intro n
  induction n with
  | zero =>
    intro a0 a1 M hB h
    have h : (none : Option (Int32 × Mm)) = some out := h
    cases h
  | succ n ih =>
    intro a0 a1 M hB h
    rw [fX16_optionMss_L3] at h
    obtain ⟨v1, ev1, h⟩ := bd h
    by_cases hc : v1 ≤ a1
    · have h := (if_pos hc).symm.trans h
      obtain rfl := Option.some.inj h
      exact hB
    · have h := (if_neg hc).symm.trans h
      obtain ⟨v2, ev2, h⟩ := bd h
      obtain ⟨v3, ev3, h⟩ := bd h
      by_cases hc : v3 = 0
      · have h := (if_pos hc).symm.trans h
        obtain rfl := Option.some.inj h
        exact hB
      · have h := (if_neg hc).symm.trans h
        by_cases hc : v3 = (1 : Int32)
        · have h := (if_pos hc).symm.trans h
          exact dX16_optionMss_L116 fu (fun b0 b1 M => fX16_optionMss_L3 fu  n b0 b1 M) ih  a0 (a1 + (1 : Int32)) M hB h
        · have h := (if_neg hc).symm.trans h
          obtain ⟨v4, ev4, h⟩ := bd h
          by_cases hc : (a1 + (1 : Int32)) < v4
          · have h := (if_pos hc).symm.trans h
            obtain ⟨v5, ev5, h⟩ := bd h
            obtain ⟨v6, ev6, h⟩ := bd h
            by_cases hc : (v6 &&& (255 : Int32)) < (2 : Int32)
            · have h := (if_pos hc).symm.trans h
              obtain rfl := Option.some.inj h
              exact hB
            · have h := (if_neg hc).symm.trans h
              obtain ⟨v7, ev7, h⟩ := bd h
              by_cases hc : (a1 + (v6 &&& (255 : Int32))) ≤ v7
              · have h := (if_pos hc).symm.trans h
                by_cases hc : v3 = (2 : Int32)
                · have h := (if_pos hc).symm.trans h
                  by_cases hc : (v6 &&& (255 : Int32)) = (4 : Int32)
                  · have h := (if_pos hc).symm.trans h
                    obtain ⟨q8, eq8, h⟩ := bd h
                    obtain ⟨v10, M9, eM9, h⟩ := b2d h
                    have hB := dX16_half fu q8 (a1 + (2 : Int32)) M hB eM9
                    obtain rfl := Option.some.inj h
                    exact hB
                  · have h := (if_neg hc).symm.trans h
                    exact dX16_optionMss_L112 fu (fun b0 b1 M => fX16_optionMss_L3 fu  n b0 b1 M) ih  a0 a1 (v6 &&& (255 : Int32)) M hB h
                · have h := (if_neg hc).symm.trans h
                  exact dX16_optionMss_L112 fu (fun b0 b1 M => fX16_optionMss_L3 fu  n b0 b1 M) ih  a0 a1 (v6 &&& (255 : Int32)) M hB h
              · have h := (if_neg hc).symm.trans h
                obtain rfl := Option.some.inj h
                exact hB
          · have h := (if_neg hc).symm.trans h
            obtain rfl := Option.some.inj h
            exact hB
theorem dX16_optionMss (fu : Nat) {dn : Nat} {out : Int32 × Mm}   (a0 : Nat)  (M : Mm) (hB : DP dn M) (h : fX16_optionMss fu  a0 M = some out) : DP dn out.2 := by
  unfold fX16_optionMss at h
  exact dX16_optionMss_L3 fu   fu a0 (20 : Int32) M hB h
theorem dX16_pays (fu : Nat) {dn : Nat} {out : Mm}   (a0 : Nat) (a1 : Option Nat)  (M : Mm) (hB : DP dn M) (h : fX16_pays fu  a0 a1 M = some out) : DP dn out := by
  unfold fX16_pays at h
  obtain ⟨M1, eM1, h⟩ := bd h
  have hB := d_pZ hB eM1 (by decide)
  obtain ⟨q2, eq2, h⟩ := bd h
  obtain ⟨v4, M3, eM3, h⟩ := b2d h
  have hB := dX12_open fu q2  M1 hB eM3
  obtain ⟨M5, eM5, h⟩ := bd h
  have hB := d_pF hB eM5 (by decide)
  obtain rfl := Option.some.inj h
  exact hB
theorem dX16_before (fu : Nat) {dn : Nat} {out : Int32 × Mm}   (a0 : Int32) (a1 : Int32)  (M : Mm) (hB : DP dn M) (h : fX16_before fu  a0 a1 M = some out) : DP dn out.2 := by
  unfold fX16_before at h
  by_cases hc : 0 ≤ (a0 - a1)
  · have h := (if_pos hc).symm.trans h
    obtain ⟨hz, rfl⟩ := rN_some h
    exact hB
  · have h := (if_neg hc).symm.trans h
    obtain ⟨hz, rfl⟩ := rN_some h
    exact hB
theorem dX16_timerSet (fu : Nat) {dn : Nat} {out : Mm}   (a0 : Nat) (a1 : Option Nat)  (M : Mm) (hB : DP dn M) (h : fX16_timerSet fu  a0 a1 M = some out) : DP dn out := by
  unfold fX16_timerSet at h
  obtain ⟨M1, eM1, h⟩ := bd h
  have hB := d_pZ hB eM1 (by decide)
  obtain ⟨v2, ev2, h⟩ := bd h
  obtain ⟨v3, ev3, h⟩ := bd h
  obtain ⟨M4, eM4, h⟩ := bd h
  have hB := d_pF hB eM4 (by decide)
  obtain rfl := Option.some.inj h
  exact hB
theorem dX16_noted_L54 (fu : Nat) {dn : Nat} {out : Mm}   (a0 : Nat) (a1 : Option Nat)  (M : Mm) (hB : DP dn M) (h : fX16_noted_L54 fu  a0 a1 M = some out) : DP dn out := by
  unfold fX16_noted_L54 at h
  obtain ⟨v1, ev1, h⟩ := bd h
  by_cases hc : v1 = 0
  · have h := (if_pos hc).symm.trans h
    obtain ⟨q2, eq2, h⟩ := bd h
    obtain ⟨M3, eM3, h⟩ := bd h
    have hB := dX16_timerSet fu q2 a1 M hB eM3
    obtain rfl := Option.some.inj h
    exact hB
  · have h := (if_neg hc).symm.trans h
    obtain rfl := Option.some.inj h
    exact hB
theorem dX16_noted (fu : Nat) {dn : Nat} {out : Mm}   (a0 : Nat) (a1 : Option Nat) (a2 : Int32)  (M : Mm) (hB : DP dn M) (h : fX16_noted fu  a0 a1 a2 M = some out) : DP dn out := by
  unfold fX16_noted at h
  obtain ⟨v1, ev1, h⟩ := bd h
  obtain ⟨v3, M2, eM2, h⟩ := b2d h
  have hB := dX16_before fu  a2 v1 M hB eM2
  by_cases hc : v3 = 0
  · have h := (if_pos hc).symm.trans h
    obtain ⟨v4, ev4, h⟩ := bd h
    by_cases hc : v4 = 0
    · have h := (if_pos hc).symm.trans h
      obtain ⟨M5, eM5, h⟩ := bd h
      have hB := d_pZ hB eM5 (by decide)
      obtain ⟨M6, eM6, h⟩ := bd h
      have hB := d_pF hB eM6 (by decide)
      obtain ⟨v7, ev7, h⟩ := bd h
      obtain ⟨M8, eM8, h⟩ := bd h
      have hB := d_pF hB eM8 (by decide)
      exact dX16_noted_L54 fu    a0 a1 M8 hB h
    · have h := (if_neg hc).symm.trans h
      exact dX16_noted_L54 fu    a0 a1 M2 hB h
  · have h := (if_neg hc).symm.trans h
    obtain ⟨v9, ev9, h⟩ := bd h
    obtain ⟨v10, ev10, h⟩ := bd h
    obtain ⟨M11, eM11, h⟩ := bd h
    have hB := d_pA hB eM11
    obtain ⟨M12, eM12, h⟩ := bd h
    have hB := d_pZ hB eM12 (by decide)
    exact dX16_noted_L54 fu    a0 a1 M12 hB h
theorem dX16_synAck (fu : Nat) {dn : Nat} {out : Mm}   (a0 : Nat) (a1 : Option Nat)  (M : Mm) (hB : DP dn M) (h : fX16_synAck fu  a0 a1 M = some out) : DP dn out := by
  unfold fX16_synAck at h
  obtain ⟨v1, ev1, h⟩ := bd h
  obtain ⟨v2, ev2, h⟩ := bd h
  obtain ⟨v3, ev3, h⟩ := bd h
  obtain ⟨v4, ev4, h⟩ := bd h
  obtain ⟨q5, eq5, h⟩ := bd h
  obtain ⟨v7, M6, eM6, h⟩ := b2d h
  have hB := dX12_open fu q5  M hB eM6
  obtain ⟨q8, eq8, h⟩ := bd h
  obtain ⟨M9, eM9, h⟩ := bd h
  have hB := dX16_segmentOut fu q8 v1 (80 : Int32) v2 v3 v4 (18 : Int32) v7 (4 : Int32) (0 : Int32) M6 hB eM9
  obtain ⟨q10, eq10, h⟩ := bd h
  obtain ⟨M11, eM11, h⟩ := bd h
  have hB := dX16_pays fu q10 a1 M9 hB eM11
  obtain ⟨v12, ev12, h⟩ := bd h
  obtain ⟨q13, eq13, h⟩ := bd h
  obtain ⟨M14, eM14, h⟩ := bd h
  have hB := dX16_noted fu q13 a1 v12 M11 hB eM14
  obtain ⟨v15, ev15, h⟩ := bd h
  obtain ⟨M16, eM16, h⟩ := bd h
  have hB := d_pF hB eM16 (by decide)
  obtain ⟨v17, ev17, h⟩ := bd h
  obtain ⟨v18, ev18, h⟩ := bd h
  obtain ⟨v20, M19, eM19, h⟩ := b2d h
  have hB := dX16_before fu  v17 v18 M16 hB eM19
  by_cases hc : v20 = 0
  · have h := (if_pos hc).symm.trans h
    obtain rfl := Option.some.inj h
    exact hB
  · have h := (if_neg hc).symm.trans h
    obtain ⟨v21, ev21, h⟩ := bd h
    obtain ⟨M22, eM22, h⟩ := bd h
    have hB := d_pF hB eM22 (by decide)
    obtain rfl := Option.some.inj h
    exact hB
theorem dX16_alone_L27 (fu : Nat) {dn : Nat} {out : Mm}   (a0 : Nat)  (M : Mm) (hB : DP dn M) (h : fX16_alone_L27 fu  a0 M = some out) : DP dn out := by
  unfold fX16_alone_L27 at h
  obtain ⟨q1, eq1, h⟩ := bd h
  obtain ⟨M2, eM2, h⟩ := bd h
  have hB := dX16_reset fu q1  M hB eM2
  obtain rfl := Option.some.inj h
  exact hB
theorem dX16_alone_L360 (fu : Nat) {dn : Nat} {out : Mm}   : ∀ (n : Nat) (a0 : Nat) (a1 : Option Nat) (a2 : Int32)  (M : Mm), DP dn M → fX16_alone_L360 fu  n a0 a1 a2 M = some out → DP dn out := by
  intro n
  induction n with
  | zero =>
    intro a0 a1 a2 M hB h
    have h : (none : Option (Mm)) = some out := h
    cases h
  | succ n ih =>
    intro a0 a1 a2 M hB h
    rw [fX16_alone_L360] at h
    by_cases hc : (4096 : Int32) ≤ a2
    · have h := (if_pos hc).symm.trans h
      obtain ⟨q1, eq1, h⟩ := bd h
      obtain ⟨M2, eM2, h⟩ := bd h
      have hB := dX16_synAck fu q1 a1 M hB eM2
      obtain rfl := Option.some.inj h
      exact hB
    · have h := (if_neg hc).symm.trans h
      obtain ⟨v3, ev3, h⟩ := bd h
      obtain ⟨M4, eM4, h⟩ := bd h
      have hB := d_pA hB eM4
      exact ih a0 a1 (a2 + (1 : Int32)) M4 hB h
theorem dX16_alone_L255 (fu : Nat) {dn : Nat} {out : Mm}   (a0 : Nat) (a1 : Option Nat) (s0 : Option Nat) (s1 : Int32) (M : Mm) (hB : DP dn M) (h : fX16_alone_L255 fu  a0 a1 s0 s1 M = some out) : DP dn out := by
  unfold fX16_alone_L255 at h
  obtain ⟨M1, eM1, h⟩ := bd h
  have hB := d_pF hB eM1 (by decide)
  obtain ⟨M2, eM2, h⟩ := bd h
  have hB := d_pF hB eM2 (by decide)
  obtain ⟨M3, eM3, h⟩ := bd h
  have hB := d_pF hB eM3 (by decide)
  obtain ⟨M4, eM4, h⟩ := bd h
  have hB := d_pZ hB eM4 (by decide)
  obtain ⟨M5, eM5, h⟩ := bd h
  have hB := d_pZ hB eM5 (by decide)
  obtain ⟨M6, eM6, h⟩ := bd h
  have hB := d_pZ hB eM6 (by decide)
  obtain ⟨M7, eM7, h⟩ := bd h
  have hB := d_pZ hB eM7 (by decide)
  obtain ⟨M8, eM8, h⟩ := bd h
  have hB := d_pF hB eM8 (by decide)
  obtain ⟨M9, eM9, h⟩ := bd h
  have hB := d_p0 hB eM9
  obtain ⟨M10, eM10, h⟩ := bd h
  have hB := d_pF hB eM10 (by decide)
  obtain ⟨M11, eM11, h⟩ := bd h
  have hB := d_pF hB eM11 (by decide)
  obtain ⟨v12, ev12, h⟩ := bd h
  obtain ⟨M13, eM13, h⟩ := bd h
  have hB := d_pF hB eM13 (by decide)
  obtain ⟨M14, eM14, h⟩ := bd h
  have hB := d_pZ hB eM14 (by decide)
  obtain ⟨M15, eM15, h⟩ := bd h
  have hB := d_pZ hB eM15 (by decide)
  obtain ⟨M16, eM16, h⟩ := bd h
  have hB := d_pF hB eM16 (by decide)
  obtain ⟨M17, eM17, h⟩ := bd h
  have hB := d_pZ hB eM17 (by decide)
  obtain ⟨M18, eM18, h⟩ := bd h
  have hB := d_pZ hB eM18 (by decide)
  obtain ⟨M19, eM19, h⟩ := bd h
  have hB := d_pZ hB eM19 (by decide)
  obtain ⟨M20, eM20, h⟩ := bd h
  have hB := d_pF hB eM20 (by decide)
  exact dX16_alone_L360 fu   fu a0 a1 (0 : Int32) M20 hB h
theorem dX16_alone_L77 (fu : Nat) {dn : Nat} {out : Mm} (k54 : Nat → Option Nat → Int32 → Mm → Option (Mm)) (hk54 : ∀ (b0 : Nat) (b1 : Option Nat) (b2 : Int32)  (M : Mm), DP dn M → k54 b0 b1 b2 M = some out → DP dn out) (a0 : Nat) (a1 : Option Nat) (a2 : Int32)  (M : Mm) (hB : DP dn M) (h : fX16_alone_L77 fu k54 a0 a1 a2 M = some out) : DP dn out := by
  unfold fX16_alone_L77 at h
  exact hk54 a0 a1 (a2 + (-1 : Int32)) M hB h
theorem dX16_alone_L54 (fu : Nat) {dn : Nat} {out : Mm}   : ∀ (n : Nat) (a0 : Nat) (a1 : Option Nat) (a2 : Int32)  (M : Mm), DP dn M → fX16_alone_L54 fu  n a0 a1 a2 M = some out → DP dn out := by
  intro n
  induction n with
  | zero =>
    intro a0 a1 a2 M hB h
    have h : (none : Option (Mm)) = some out := h
    cases h
  | succ n ih =>
    intro a0 a1 a2 M hB h
    rw [fX16_alone_L54] at h
    by_cases hc : a2 < 0
    · have h := (if_pos hc).symm.trans h
      by_cases hc : a1 = none
      · have h := (if_pos hc).symm.trans h
        obtain rfl := Option.some.inj h
        exact hB
      · have h := (if_neg hc).symm.trans h
        obtain ⟨v1, ev1, h⟩ := bd h
        obtain ⟨M2, eM2, h⟩ := bd h
        have hB := d_pF hB eM2 (by decide)
        obtain ⟨v3, ev3, h⟩ := bd h
        obtain ⟨v4, ev4, h⟩ := bd h
        obtain ⟨M5, eM5, h⟩ := bd h
        have hB := d_pA hB eM5
        obtain ⟨M6, eM6, h⟩ := bd h
        have hB := d_pF hB eM6 (by decide)
        obtain ⟨v7, ev7, h⟩ := bd h
        obtain ⟨M8, eM8, h⟩ := bd h
        have hB := d_pF hB eM8 (by decide)
        obtain ⟨v9, ev9, h⟩ := bd h
        obtain ⟨M10, eM10, h⟩ := bd h
        have hB := d_port hB ev9 eM10
        obtain ⟨v11, ev11, h⟩ := bd h
        obtain ⟨M12, eM12, h⟩ := bd h
        have hB := d_pF hB eM12 (by decide)
        obtain ⟨v13, ev13, h⟩ := bd h
        obtain ⟨M14, eM14, h⟩ := bd h
        have hB := d_pF hB eM14 (by decide)
        obtain ⟨v15, ev15, h⟩ := bd h
        obtain ⟨M16, eM16, h⟩ := bd h
        have hB := d_pF hB eM16 (by decide)
        obtain ⟨v17, ev17, h⟩ := bd h
        obtain ⟨v18, ev18, h⟩ := bd h
        obtain ⟨M19, eM19, h⟩ := bd h
        have hB := d_pF hB eM19 (by decide)
        obtain ⟨v20, ev20, h⟩ := bd h
        obtain ⟨M21, eM21, h⟩ := bd h
        have hB := d_pF hB eM21 (by decide)
        obtain ⟨v22, ev22, h⟩ := bd h
        obtain ⟨M23, eM23, h⟩ := bd h
        have hB := d_pF hB eM23 (by decide)
        obtain ⟨v24, ev24, h⟩ := bd h
        obtain ⟨M25, eM25, h⟩ := bd h
        have hB := d_pF hB eM25 (by decide)
        obtain ⟨v26, ev26, h⟩ := bd h
        obtain ⟨M27, eM27, h⟩ := bd h
        have hB := d_pF hB eM27 (by decide)
        obtain ⟨v28, ev28, h⟩ := bd h
        obtain ⟨M29, eM29, h⟩ := bd h
        have hB := d_pF hB eM29 (by decide)
        obtain ⟨M30, eM30, h⟩ := bd h
        have hB := d_pF hB eM30 (by decide)
        obtain ⟨q31, eq31, h⟩ := bd h
        obtain ⟨v33, M32, eM32, h⟩ := b2d h
        have hB := dX16_optionMss fu q31  M30 hB eM32
        obtain ⟨M34, eM34, h⟩ := bd h
        have hB := d_pF hB eM34 (by decide)
        obtain ⟨v35, ev35, h⟩ := bd h
        by_cases hc : (1095 : Int32) < v35
        · have h := (if_pos hc).symm.trans h
          obtain ⟨v36, ev36, h⟩ := bd h
          exact dX16_alone_L255 fu    a0 a1 a1 ((3 : Int32) * v36) M34 hB h
        · have h := (if_neg hc).symm.trans h
          obtain ⟨v37, ev37, h⟩ := bd h
          exact dX16_alone_L255 fu    a0 a1 a1 ((4 : Int32) * v37) M34 hB h
    · have h := (if_neg hc).symm.trans h
      obtain ⟨v38, ev38, h⟩ := bd h
      obtain ⟨v39, ev39, h⟩ := bd h
      obtain ⟨v40, ev40, h⟩ := bd h
      by_cases hc : v40 = 0
      · have h := (if_pos hc).symm.trans h
        obtain ⟨v41, ev41, h⟩ := bd h
        obtain ⟨v42, ev42, h⟩ := bd h
        exact dX16_alone_L77 fu (fun b0 b1 b2 M => fX16_alone_L54 fu  n b0 b1 b2 M) ih  a0 v42 a2 M hB h
      · have h := (if_neg hc).symm.trans h
        exact dX16_alone_L77 fu (fun b0 b1 b2 M => fX16_alone_L54 fu  n b0 b1 b2 M) ih  a0 a1 a2 M hB h
theorem dX16_alone (fu : Nat) {dn : Nat} {out : Mm}   (a0 : Nat)  (M : Mm) (hB : DP dn M) (h : fX16_alone fu  a0 M = some out) : DP dn out := by
  unfold fX16_alone at h
  obtain ⟨q1, eq1, h⟩ := bd h
  obtain ⟨v3, M2, eM2, h⟩ := b2d h
  have hB := dX16_is fu q1 (4 : Int32) M hB eM2
  by_cases hc : v3 = 0
  · have h := (if_pos hc).symm.trans h
    obtain ⟨v4, ev4, h⟩ := bd h
    by_cases hc : v4 = (80 : Int32)
    · have h := (if_pos hc).symm.trans h
      obtain ⟨q5, eq5, h⟩ := bd h
      obtain ⟨v7, M6, eM6, h⟩ := b2d h
      have hB := dX16_is fu q5 (16 : Int32) M2 hB eM6
      by_cases hc : v7 = 0
      · have h := (if_pos hc).symm.trans h
        obtain ⟨q8, eq8, h⟩ := bd h
        obtain ⟨v10, M9, eM9, h⟩ := b2d h
        have hB := dX16_is fu q8 (2 : Int32) M6 hB eM9
        by_cases hc : v10 = 0
        · have h := (if_pos hc).symm.trans h
          obtain rfl := Option.some.inj h
          exact hB
        · have h := (if_neg hc).symm.trans h
          obtain ⟨q11, eq11, h⟩ := bd h
          obtain ⟨v13, M12, eM12, h⟩ := b2d h
          have hB := dX16_is fu q11 (1 : Int32) M9 hB eM12
          by_cases hc : v13 = 0
          · have h := (if_pos hc).symm.trans h
            exact dX16_alone_L54 fu   fu a0 none (15 : Int32) M12 hB h
          · have h := (if_neg hc).symm.trans h
            obtain rfl := Option.some.inj h
            exact hB
      · have h := (if_neg hc).symm.trans h
        exact dX16_alone_L27 fu    a0 M6 hB h
    · have h := (if_neg hc).symm.trans h
      exact dX16_alone_L27 fu    a0 M2 hB h
  · have h := (if_neg hc).symm.trans h
    obtain rfl := Option.some.inj h
    exact hB
theorem dX16_lies (fu : Nat) {dn : Nat} {out : Int32 × Mm}   (a0 : Option Nat) (a1 : Int32) (a2 : Int32)  (M : Mm) (hB : DP dn M) (h : fX16_lies fu  a0 a1 a2 M = some out) : DP dn out.2 := by
  unfold fX16_lies at h
  obtain ⟨v1, ev1, h⟩ := bd h
  obtain ⟨v3, M2, eM2, h⟩ := b2d h
  have hB := dX16_before fu  a1 v1 M hB eM2
  by_cases hc : v3 = 0
  · have h := (if_pos hc).symm.trans h
    obtain ⟨v4, ev4, h⟩ := bd h
    obtain ⟨v6, M5, eM5, h⟩ := b2d h
    have hB := dX16_before fu  a1 (v4 + a2) M2 hB eM5
    by_cases hc : v6 = 0
    · have h := (if_pos hc).symm.trans h
      obtain ⟨hz, rfl⟩ := rN_some h
      exact hB
    · have h := (if_neg hc).symm.trans h
      obtain ⟨hz, rfl⟩ := rN_some h
      exact hB
  · have h := (if_neg hc).symm.trans h
    obtain ⟨hz, rfl⟩ := rN_some h
    exact hB
theorem dX16_isAcceptable (fu : Nat) {dn : Nat} {out : Int32 × Mm}   (a0 : Nat) (a1 : Option Nat)  (M : Mm) (hB : DP dn M) (h : fX16_isAcceptable fu  a0 a1 M = some out) : DP dn out.2 := by
  unfold fX16_isAcceptable at h
  obtain ⟨q1, eq1, h⟩ := bd h
  obtain ⟨v3, M2, eM2, h⟩ := b2d h
  have hB := dX12_open fu q1  M hB eM2
  obtain ⟨q4, eq4, h⟩ := bd h
  obtain ⟨v6, M5, eM5, h⟩ := b2d h
  have hB := dX16_extent fu q4  M2 hB eM5
  by_cases hc : v3 = 0
  · have h := (if_pos hc).symm.trans h
    by_cases hc : v6 = 0
    · have h := (if_pos hc).symm.trans h
      obtain ⟨v13, ev13, h⟩ := bd h
      obtain ⟨v14, ev14, h⟩ := bd h
      by_cases hc : v13 = v14
      · have h := (if_pos hc).symm.trans h
        obtain ⟨hz, rfl⟩ := rN_some h
        exact hB
      · have h := (if_neg hc).symm.trans h
        obtain ⟨hz, rfl⟩ := rN_some h
        exact hB
    · have h := (if_neg hc).symm.trans h
      obtain ⟨hz, rfl⟩ := rN_some h
      exact hB
  · have h := (if_neg hc).symm.trans h
    obtain ⟨v7, ev7, h⟩ := bd h
    obtain ⟨v8, ev8, h⟩ := bd h
    obtain ⟨v10, M9, eM9, h⟩ := b2d h
    have hB := dX16_lies fu  a1 v8 v3 M5 hB eM9
    by_cases hc : v10 = 0
    · have h := (if_pos hc).symm.trans h
      by_cases hc : v6 ≤ 0
      · have h := (if_pos hc).symm.trans h
        obtain ⟨hz, rfl⟩ := rN_some h
        exact hB
      · have h := (if_neg hc).symm.trans h
        obtain ⟨v12, M11, eM11, h⟩ := b2d h
        have hB := dX16_lies fu  a1 ((v7 + v6) - (1 : Int32)) v3 M9 hB eM11
        by_cases hc : v12 = 0
        · have h := (if_pos hc).symm.trans h
          obtain ⟨hz, rfl⟩ := rN_some h
          exact hB
        · have h := (if_neg hc).symm.trans h
          obtain ⟨hz, rfl⟩ := rN_some h
          exact hB
    · have h := (if_neg hc).symm.trans h
      obtain ⟨hz, rfl⟩ := rN_some h
      exact hB
theorem dX16_acknowledge (fu : Nat) {dn : Nat} {out : Mm}   (a0 : Nat) (a1 : Option Nat)  (M : Mm) (hB : DP dn M) (h : fX16_acknowledge fu  a0 a1 M = some out) : DP dn out := by
  unfold fX16_acknowledge at h
  obtain ⟨v1, ev1, h⟩ := bd h
  obtain ⟨v2, ev2, h⟩ := bd h
  obtain ⟨v3, ev3, h⟩ := bd h
  obtain ⟨v4, ev4, h⟩ := bd h
  obtain ⟨q5, eq5, h⟩ := bd h
  obtain ⟨v7, M6, eM6, h⟩ := b2d h
  have hB := dX12_open fu q5  M hB eM6
  obtain ⟨q8, eq8, h⟩ := bd h
  obtain ⟨M9, eM9, h⟩ := bd h
  have hB := dX16_segmentOut fu q8 v1 (80 : Int32) v2 v3 v4 (16 : Int32) v7 (0 : Int32) (0 : Int32) M6 hB eM9
  obtain ⟨q10, eq10, h⟩ := bd h
  obtain ⟨M11, eM11, h⟩ := bd h
  have hB := dX16_pays fu q10 a1 M9 hB eM11
  obtain rfl := Option.some.inj h
  exact hB
theorem dX16_gone (fu : Nat) {dn : Nat} {out : Mm}   (a0 : Nat) (a1 : Option Nat)  (M : Mm) (hB : DP dn M) (h : fX16_gone fu  a0 a1 M = some out) : DP dn out := by
  unfold fX16_gone at h
  obtain ⟨M1, eM1, h⟩ := bd h
  have hB := d_pF hB eM1 (by decide)
  obtain ⟨M2, eM2, h⟩ := bd h
  have hB := d_pZ hB eM2 (by decide)
  obtain rfl := Option.some.inj h
  exact hB
theorem dX16_isBehind (fu : Nat) {dn : Nat} {out : Int32 × Mm}   (a0 : Int32) (a1 : Int32)  (M : Mm) (hB : DP dn M) (h : fX16_isBehind fu  a0 a1 M = some out) : DP dn out.2 := by
  unfold fX16_isBehind at h
  by_cases hc : (a0 - a1) ≤ 0
  · have h := (if_pos hc).symm.trans h
    obtain ⟨hz, rfl⟩ := rN_some h
    exact hB
  · have h := (if_neg hc).symm.trans h
    obtain ⟨hz, rfl⟩ := rN_some h
    exact hB
theorem dX16_measure_L73 (fu : Nat) {dn : Nat} {out : Mm}   (a0 : Option Nat)  (M : Mm) (hB : DP dn M) (h : fX16_measure_L73 fu  a0 M = some out) : DP dn out := by
  unfold fX16_measure_L73 at h
  obtain ⟨v1, ev1, h⟩ := bd h
  obtain ⟨v2, ev2, h⟩ := bd h
  obtain ⟨v3, ev3, h⟩ := bd h
  obtain ⟨M4, eM4, h⟩ := bd h
  have hB := d_pF hB eM4 (by decide)
  obtain rfl := Option.some.inj h
  exact hB
theorem dX16_measure_L31 (fu : Nat) {dn : Nat} {out : Mm}   (a0 : Option Nat) (a1 : Int32) (s0 : Option Nat) (s1 : Int32) (s2 : Int32) (M : Mm) (hB : DP dn M) (h : fX16_measure_L31 fu  a0 a1 s0 s1 s2 M = some out) : DP dn out := by
  unfold fX16_measure_L31 at h
  obtain ⟨M1, eM1, h⟩ := bd h
  have hB := d_pF hB eM1 (by decide)
  obtain ⟨v2, ev2, h⟩ := bd h
  obtain ⟨M3, eM3, h⟩ := bd h
  have hB := d_pF hB eM3 (by decide)
  exact dX16_measure_L73 fu    a0 M3 hB h
theorem dX16_measure (fu : Nat) {dn : Nat} {out : Mm}   (a0 : Option Nat) (a1 : Int32)  (M : Mm) (hB : DP dn M) (h : fX16_measure fu  a0 a1 M = some out) : DP dn out := by
  unfold fX16_measure at h
  obtain ⟨v1, ev1, h⟩ := bd h
  by_cases hc : v1 = 0
  · have h := (if_pos hc).symm.trans h
    obtain ⟨M2, eM2, h⟩ := bd h
    have hB := d_pZ hB eM2 (by decide)
    obtain ⟨M3, eM3, h⟩ := bd h
    have hB := d_pF hB eM3 (by decide)
    obtain ⟨M4, eM4, h⟩ := bd h
    have hB := d_pF hB eM4 (by decide)
    exact dX16_measure_L73 fu    a0 M4 hB h
  · have h := (if_neg hc).symm.trans h
    obtain ⟨v5, ev5, h⟩ := bd h
    obtain ⟨v6, ev6, h⟩ := bd h
    by_cases hc : 0 ≤ (v5 - a1)
    · have h := (if_pos hc).symm.trans h
      exact dX16_measure_L31 fu    a0 a1 a0 ((3 : Int32) * v6) (v5 - a1) M hB h
    · have h := (if_neg hc).symm.trans h
      exact dX16_measure_L31 fu    a0 a1 a0 ((3 : Int32) * v6) (-(v5 - a1)) M hB h
theorem dX16_fresh_L198 (fu : Nat) {dn : Nat} {out : Mm}   (a0 : Nat) (a1 : Option Nat)  (M : Mm) (hB : DP dn M) (h : fX16_fresh_L198 fu  a0 a1 M = some out) : DP dn out := by
  unfold fX16_fresh_L198 at h
  obtain ⟨M1, eM1, h⟩ := bd h
  have hB := d_p0 hB eM1
  obtain ⟨v2, ev2, h⟩ := bd h
  obtain ⟨M3, eM3, h⟩ := bd h
  have hB := d_pF hB eM3 (by decide)
  obtain ⟨M4, eM4, h⟩ := bd h
  have hB := d_pZ hB eM4 (by decide)
  obtain ⟨v5, ev5, h⟩ := bd h
  obtain ⟨v6, ev6, h⟩ := bd h
  obtain ⟨v8, M7, eM7, h⟩ := b2d h
  have hB := dX16_before fu  v5 v6 M4 hB eM7
  by_cases hc : v8 = 0
  · have h := (if_pos hc).symm.trans h
    obtain rfl := Option.some.inj h
    exact hB
  · have h := (if_neg hc).symm.trans h
    obtain ⟨q9, eq9, h⟩ := bd h
    obtain ⟨M10, eM10, h⟩ := bd h
    have hB := dX16_timerSet fu q9 a1 M7 hB eM10
    obtain rfl := Option.some.inj h
    exact hB
theorem dX16_fresh_L182 (fu : Nat) {dn : Nat} {out : Mm}   (a0 : Nat) (a1 : Option Nat) (s0 : Int32) (M : Mm) (hB : DP dn M) (h : fX16_fresh_L182 fu  a0 a1 s0 M = some out) : DP dn out := by
  unfold fX16_fresh_L182 at h
  obtain ⟨v1, ev1, h⟩ := bd h
  obtain ⟨M2, eM2, h⟩ := bd h
  have hB := d_pF hB eM2 (by decide)
  exact dX16_fresh_L198 fu    a0 a1 M2 hB h
theorem dX16_fresh_L111 (fu : Nat) {dn : Nat} {out : Mm}   (a0 : Nat) (a1 : Option Nat) (a2 : Int32)  (M : Mm) (hB : DP dn M) (h : fX16_fresh_L111 fu  a0 a1 a2 M = some out) : DP dn out := by
  unfold fX16_fresh_L111 at h
  obtain ⟨v1, ev1, h⟩ := bd h
  by_cases hc : v1 = 0
  · have h := (if_pos hc).symm.trans h
    obtain ⟨v2, ev2, h⟩ := bd h
    by_cases hc : v2 = (1 : Int32)
    · have h := (if_pos hc).symm.trans h
      exact dX16_fresh_L198 fu    a0 a1 M hB h
    · have h := (if_neg hc).symm.trans h
      obtain ⟨v3, ev3, h⟩ := bd h
      obtain ⟨v4, ev4, h⟩ := bd h
      by_cases hc : v4 ≤ v3
      · have h := (if_pos hc).symm.trans h
        obtain ⟨v5, ev5, h⟩ := bd h
        obtain ⟨v6, ev6, h⟩ := bd h
        obtain ⟨v7, ev7, h⟩ := bd h
        by_cases hz : v7 = 0
        · rw [if_pos hz] at h; cases h
        have h := (if_neg hz).symm.trans h
        exact dX16_fresh_L182 fu    a0 a1 (jmax (1 : Int32) ((v5 * v6) / v7)) M hB h
      · have h := (if_neg hc).symm.trans h
        obtain ⟨v8, ev8, h⟩ := bd h
        exact dX16_fresh_L182 fu    a0 a1 (jmin a2 v8) M hB h
  · have h := (if_neg hc).symm.trans h
    obtain ⟨M9, eM9, h⟩ := bd h
    have hB := d_pZ hB eM9 (by decide)
    obtain ⟨v10, ev10, h⟩ := bd h
    obtain ⟨M11, eM11, h⟩ := bd h
    have hB := d_pF hB eM11 (by decide)
    exact dX16_fresh_L198 fu    a0 a1 M11 hB h
theorem dX16_fresh_L67 (fu : Nat) {dn : Nat} {out : Mm}   (a0 : Nat) (a1 : Option Nat) (a2 : Int32)  (M : Mm) (hB : DP dn M) (h : fX16_fresh_L67 fu  a0 a1 a2 M = some out) : DP dn out := by
  unfold fX16_fresh_L67 at h
  obtain ⟨M1, eM1, h⟩ := bd h
  have hB := d_pF hB eM1 (by decide)
  obtain ⟨v2, ev2, h⟩ := bd h
  by_cases hc : v2 = 0
  · have h := (if_pos hc).symm.trans h
    exact dX16_fresh_L111 fu    a0 a1 a2 M1 hB h
  · have h := (if_neg hc).symm.trans h
    obtain ⟨v3, ev3, h⟩ := bd h
    obtain ⟨v4, ev4, h⟩ := bd h
    obtain ⟨v6, M5, eM5, h⟩ := b2d h
    have hB := dX16_isBehind fu  v3 v4 M1 hB eM5
    by_cases hc : v6 = 0
    · have h := (if_pos hc).symm.trans h
      exact dX16_fresh_L111 fu    a0 a1 a2 M5 hB h
    · have h := (if_neg hc).symm.trans h
      obtain ⟨M7, eM7, h⟩ := bd h
      have hB := d_pZ hB eM7 (by decide)
      obtain ⟨v8, ev8, h⟩ := bd h
      obtain ⟨v9, ev9, h⟩ := bd h
      obtain ⟨M10, eM10, h⟩ := bd h
      have hB := dX16_measure fu  a1 (v8 - v9) M7 hB eM10
      exact dX16_fresh_L111 fu    a0 a1 a2 M10 hB h
theorem dX16_fresh (fu : Nat) {dn : Nat} {out : Mm}   (a0 : Nat) (a1 : Option Nat)  (M : Mm) (hB : DP dn M) (h : fX16_fresh fu  a0 a1 M = some out) : DP dn out := by
  unfold fX16_fresh at h
  obtain ⟨v1, ev1, h⟩ := bd h
  obtain ⟨v2, ev2, h⟩ := bd h
  obtain ⟨v3, ev3, h⟩ := bd h
  obtain ⟨v4, ev4, h⟩ := bd h
  obtain ⟨M5, eM5, h⟩ := bd h
  have hB := d_pA hB eM5
  obtain ⟨v6, ev6, h⟩ := bd h
  obtain ⟨v7, ev7, h⟩ := bd h
  obtain ⟨v8, ev8, h⟩ := bd h
  obtain ⟨M9, eM9, h⟩ := bd h
  have hB := d_pA hB eM9
  obtain ⟨v10, ev10, h⟩ := bd h
  obtain ⟨M11, eM11, h⟩ := bd h
  have hB := d_pF hB eM11 (by decide)
  obtain ⟨v12, ev12, h⟩ := bd h
  obtain ⟨v13, ev13, h⟩ := bd h
  obtain ⟨v15, M14, eM14, h⟩ := b2d h
  have hB := dX16_before fu  v12 v13 M11 hB eM14
  by_cases hc : v15 = 0
  · have h := (if_pos hc).symm.trans h
    exact dX16_fresh_L67 fu    a0 a1 (v1 - v2) M14 hB h
  · have h := (if_neg hc).symm.trans h
    obtain ⟨v16, ev16, h⟩ := bd h
    obtain ⟨M17, eM17, h⟩ := bd h
    have hB := d_pF hB eM17 (by decide)
    exact dX16_fresh_L67 fu    a0 a1 (v1 - v2) M17 hB h
theorem dX16_takeWindow (fu : Nat) {dn : Nat} {out : Mm}   (a0 : Nat) (a1 : Option Nat)  (M : Mm) (hB : DP dn M) (h : fX16_takeWindow fu  a0 a1 M = some out) : DP dn out := by
  unfold fX16_takeWindow at h
  obtain ⟨v1, ev1, h⟩ := bd h
  obtain ⟨M2, eM2, h⟩ := bd h
  have hB := d_pF hB eM2 (by decide)
  obtain ⟨v3, ev3, h⟩ := bd h
  obtain ⟨M4, eM4, h⟩ := bd h
  have hB := d_pF hB eM4 (by decide)
  obtain ⟨v5, ev5, h⟩ := bd h
  obtain ⟨M6, eM6, h⟩ := bd h
  have hB := d_pF hB eM6 (by decide)
  obtain rfl := Option.some.inj h
  exact hB
theorem dX16_toSend (fu : Nat) {dn : Nat} {out : Int32 × Mm}   (a0 : Nat) (a1 : Option Nat) (a2 : Int32)  (M : Mm) (hB : DP dn M) (h : fX16_toSend fu  a0 a1 a2 M = some out) : DP dn out.2 := by
  unfold fX16_toSend at h
  obtain ⟨v1, ev1, h⟩ := bd h
  obtain ⟨v2, ev2, h⟩ := bd h
  by_cases hc : v2 ≤ (a2 - v1)
  · have h := (if_pos hc).symm.trans h
    obtain ⟨v3, ev3, h⟩ := bd h
    obtain ⟨v4, ev4, h⟩ := bd h
    obtain ⟨v5, ev5, h⟩ := bd h
    obtain ⟨v6, ev6, h⟩ := bd h
    obtain ⟨hz, rfl⟩ := rN_some h
    exact hB
  · have h := (if_neg hc).symm.trans h
    obtain ⟨v7, ev7, h⟩ := bd h
    obtain ⟨v8, ev8, h⟩ := bd h
    obtain ⟨hz, rfl⟩ := rN_some h
    exact hB
theorem dX16_dataOut_L113 (fu : Nat) {dn : Nat} {out : Mm}   (a0 : Nat) (a1 : Option Nat) (a2 : Int32) (a3 : Int32) (a4 : Int32) (a5 : Int32)  (M : Mm) (hB : DP dn M) (h : fX16_dataOut_L113 fu  a0 a1 a2 a3 a4 a5 M = some out) : DP dn out := by
  unfold fX16_dataOut_L113 at h
  obtain ⟨v1, ev1, h⟩ := bd h
  obtain ⟨v2, ev2, h⟩ := bd h
  obtain ⟨v3, ev3, h⟩ := bd h
  obtain ⟨q4, eq4, h⟩ := bd h
  obtain ⟨v6, M5, eM5, h⟩ := b2d h
  have hB := dX12_open fu q4  M hB eM5
  obtain ⟨q7, eq7, h⟩ := bd h
  obtain ⟨M8, eM8, h⟩ := bd h
  have hB := dX16_segmentOut fu q7 v1 (80 : Int32) v2 a2 v3 a5 v6 (0 : Int32) a3 M5 hB eM8
  obtain ⟨q9, eq9, h⟩ := bd h
  obtain ⟨M10, eM10, h⟩ := bd h
  have hB := dX16_pays fu q9 a1 M8 hB eM10
  obtain ⟨q11, eq11, h⟩ := bd h
  obtain ⟨M12, eM12, h⟩ := bd h
  have hB := dX16_noted fu q11 a1 a2 M10 hB eM12
  by_cases hc : a4 = 0
  · have h := (if_pos hc).symm.trans h
    obtain rfl := Option.some.inj h
    exact hB
  · have h := (if_neg hc).symm.trans h
    obtain ⟨v13, ev13, h⟩ := bd h
    by_cases hc : v13 = 0
    · have h := (if_pos hc).symm.trans h
      obtain ⟨M14, eM14, h⟩ := bd h
      have hB := d_pZ hB eM14 (by decide)
      obtain ⟨v15, ev15, h⟩ := bd h
      by_cases hc : v15 = (2 : Int32)
      · have h := (if_pos hc).symm.trans h
        obtain ⟨M17, eM17, h⟩ := bd h
        have hB := d_pF hB eM17 (by decide)
        obtain rfl := Option.some.inj h
        exact hB
      · have h := (if_neg hc).symm.trans h
        obtain ⟨M16, eM16, h⟩ := bd h
        have hB := d_pF hB eM16 (by decide)
        obtain rfl := Option.some.inj h
        exact hB
    · have h := (if_neg hc).symm.trans h
      obtain rfl := Option.some.inj h
      exact hB
theorem dX16_dataOut_L103 (fu : Nat) {dn : Nat} {out : Mm}   (a0 : Nat) (a1 : Option Nat) (a2 : Int32) (a3 : Int32) (a4 : Int32) (a5 : Int32)  (M : Mm) (hB : DP dn M) (h : fX16_dataOut_L103 fu  a0 a1 a2 a3 a4 a5 M = some out) : DP dn out := by
  unfold fX16_dataOut_L103 at h
  obtain ⟨v1, ev1, h⟩ := bd h
  obtain ⟨M2, eM2, h⟩ := bd h
  have hB := d_pF hB eM2 (by decide)
  exact dX16_dataOut_L113 fu    a0 a1 a2 a3 a4 a5 M2 hB h
theorem dX16_dataOut_L67 (fu : Nat) {dn : Nat} {out : Mm}   (a0 : Nat) (a1 : Option Nat) (a2 : Int32) (a3 : Int32) (a4 : Int32) (s0 : Int32) (s1 : Int32) (M : Mm) (hB : DP dn M) (h : fX16_dataOut_L67 fu  a0 a1 a2 a3 a4 s0 s1 M = some out) : DP dn out := by
  unfold fX16_dataOut_L67 at h
  obtain ⟨v1, ev1, h⟩ := bd h
  by_cases hc : v1 = (1 : Int32)
  · have h := (if_pos hc).symm.trans h
    exact dX16_dataOut_L103 fu    a0 a1 a2 a3 a4 (s0 ||| s1) M hB h
  · have h := (if_neg hc).symm.trans h
    obtain ⟨v2, ev2, h⟩ := bd h
    by_cases hc : v2 = (6 : Int32)
    · have h := (if_pos hc).symm.trans h
      exact dX16_dataOut_L103 fu    a0 a1 a2 a3 a4 (s0 ||| s1) M hB h
    · have h := (if_neg hc).symm.trans h
      obtain ⟨v3, ev3, h⟩ := bd h
      by_cases hc : v3 = (4 : Int32)
      · have h := (if_pos hc).symm.trans h
        exact dX16_dataOut_L103 fu    a0 a1 a2 a3 a4 (s0 ||| s1) M hB h
      · have h := (if_neg hc).symm.trans h
        obtain ⟨v4, ev4, h⟩ := bd h
        by_cases hc : a3 ≤ v4
        · have h := (if_pos hc).symm.trans h
          exact dX16_dataOut_L113 fu    a0 a1 a2 a3 a4 (s0 ||| s1) M hB h
        · have h := (if_neg hc).symm.trans h
          exact dX16_dataOut_L103 fu    a0 a1 a2 a3 a4 (s0 ||| s1) M hB h
theorem dX16_dataOut_L56 (fu : Nat) {dn : Nat} {out : Mm}   (a0 : Nat) (a1 : Option Nat) (a2 : Int32) (a3 : Int32) (a4 : Int32) (s0 : Int32) (s1 : Int32) (M : Mm) (hB : DP dn M) (h : fX16_dataOut_L56 fu  a0 a1 a2 a3 a4 s0 s1 M = some out) : DP dn out := by
  unfold fX16_dataOut_L56 at h
  by_cases hc : a4 = 0
  · have h := (if_pos hc).symm.trans h
    exact dX16_dataOut_L67 fu    a0 a1 a2 a3 a4 (s0 ||| s1) (0 : Int32) M hB h
  · have h := (if_neg hc).symm.trans h
    exact dX16_dataOut_L67 fu    a0 a1 a2 a3 a4 (s0 ||| s1) (1 : Int32) M hB h
theorem dX16_dataOut_L55 (fu : Nat) {dn : Nat} {out : Mm}   (a0 : Nat) (a1 : Option Nat) (a2 : Int32) (a3 : Int32) (a4 : Int32) (s0 : Int32) (M : Mm) (hB : DP dn M) (h : fX16_dataOut_L55 fu  a0 a1 a2 a3 a4 s0 M = some out) : DP dn out := by
  unfold fX16_dataOut_L55 at h
  exact dX16_dataOut_L56 fu    a0 a1 a2 a3 a4 s0 (0 : Int32) M hB h
theorem dX16_dataOut_L3 (fu : Nat) {dn : Nat} {out : Mm}   : ∀ (n : Nat) (a0 : Nat) (a1 : Option Nat) (a2 : Int32) (a3 : Int32) (a4 : Int32) (a5 : Int32)  (M : Mm), DP dn M → fX16_dataOut_L3 fu  n a0 a1 a2 a3 a4 a5 M = some out → DP dn out := by
  intro n
  induction n with
  | zero =>
    intro a0 a1 a2 a3 a4 a5 M hB h
    have h : (none : Option (Mm)) = some out := h
    cases h
  | succ n ih =>
    intro a0 a1 a2 a3 a4 a5 M hB h
    rw [fX16_dataOut_L3] at h
    by_cases hc : a3 ≤ a5
    · have h := (if_pos hc).symm.trans h
      by_cases hc : a3 ≤ 0
      · have h := (if_pos hc).symm.trans h
        exact dX16_dataOut_L55 fu    a0 a1 a2 a3 a4 (16 : Int32) M hB h
      · have h := (if_neg hc).symm.trans h
        obtain ⟨q1, eq1, h⟩ := bd h
        obtain ⟨v3, M2, eM2, h⟩ := b2d h
        have hB := dX12_behind fu q1  M hB eM2
        by_cases hc : (a2 + a3) = v3
        · have h := (if_pos hc).symm.trans h
          exact dX16_dataOut_L56 fu    a0 a1 a2 a3 a4 (16 : Int32) (8 : Int32) M2 hB h
        · have h := (if_neg hc).symm.trans h
          exact dX16_dataOut_L55 fu    a0 a1 a2 a3 a4 (16 : Int32) M2 hB h
    · have h := (if_neg hc).symm.trans h
      obtain ⟨v4, ev4, h⟩ := bd h
      obtain ⟨q5, eq5, h⟩ := bd h
      obtain ⟨v7, M6, eM6, h⟩ := b2d h
      have hB := dX16_toSend fu q5 a1 (a2 + a5) M hB eM6
      obtain ⟨M8, eM8, h⟩ := bd h
      have hB := d_pA hB eM8
      exact ih a0 a1 a2 a3 a4 (a5 + (1 : Int32)) M8 hB h
theorem dX16_dataOut (fu : Nat) {dn : Nat} {out : Mm}   (a0 : Nat) (a1 : Option Nat) (a2 : Int32) (a3 : Int32) (a4 : Int32)  (M : Mm) (hB : DP dn M) (h : fX16_dataOut fu  a0 a1 a2 a3 a4 M = some out) : DP dn out := by
  unfold fX16_dataOut at h
  exact dX16_dataOut_L3 fu   fu a0 a1 a2 a3 a4 (0 : Int32) M hB h
theorem dX16_duplicate_L98 (fu : Nat) {dn : Nat} {out : Mm}   (a0 : Nat) (a1 : Option Nat) (a3 : Int32) (s0 : Int32) (M : Mm) (hB : DP dn M) (h : fX16_duplicate_L98 fu  a0 a1 a3 s0 M = some out) : DP dn out := by
  unfold fX16_duplicate_L98 at h
  obtain ⟨v1, ev1, h⟩ := bd h
  obtain ⟨q2, eq2, h⟩ := bd h
  obtain ⟨M3, eM3, h⟩ := bd h
  have hB := dX16_dataOut fu q2 a1 v1 a3 s0 M hB eM3
  obtain ⟨v4, ev4, h⟩ := bd h
  obtain ⟨v5, ev5, h⟩ := bd h
  obtain ⟨M6, eM6, h⟩ := bd h
  have hB := d_pF hB eM6 (by decide)
  obtain ⟨M7, eM7, h⟩ := bd h
  have hB := d_pZ hB eM7 (by decide)
  obtain rfl := Option.some.inj h
  exact hB
theorem dX16_duplicate_L97 (fu : Nat) {dn : Nat} {out : Mm}   (a0 : Nat) (a1 : Option Nat) (a3 : Int32)  (M : Mm) (hB : DP dn M) (h : fX16_duplicate_L97 fu  a0 a1 a3 M = some out) : DP dn out := by
  unfold fX16_duplicate_L97 at h
  exact dX16_duplicate_L98 fu    a0 a1 a3 (0 : Int32) M hB h
theorem dX16_duplicate (fu : Nat) {dn : Nat} (hn : dn < 1000000) {out : Mm}   (a0 : Nat) (a1 : Option Nat)  (M : Mm) (hB : DP dn M) (h : fX16_duplicate fu  a0 a1 M = some out) : DP (dn + 1) out := by
  unfold fX16_duplicate at h
  obtain ⟨v1, ev1, h⟩ := bd h
  obtain ⟨M2, eM2, h⟩ := bd h
  have hB := d_inc hn hB ev1 eM2
  obtain ⟨v3, ev3, h⟩ := bd h
  by_cases hc : v3 = (3 : Int32)
  · have h := (if_pos hc).symm.trans h
    obtain ⟨v8, ev8, h⟩ := bd h
    obtain ⟨v9, ev9, h⟩ := bd h
    obtain ⟨v10, ev10, h⟩ := bd h
    obtain ⟨M11, eM11, h⟩ := bd h
    have hB := d_pF hB eM11 (by decide)
    obtain ⟨q12, eq12, h⟩ := bd h
    obtain ⟨v14, M13, eM13, h⟩ := b2d h
    have hB := dX12_behind fu q12  M11 hB eM13
    obtain ⟨v15, ev15, h⟩ := bd h
    obtain ⟨v16, ev16, h⟩ := bd h
    obtain ⟨v17, ev17, h⟩ := bd h
    obtain ⟨v18, ev18, h⟩ := bd h
    obtain ⟨v19, ev19, h⟩ := bd h
    obtain ⟨v20, ev20, h⟩ := bd h
    by_cases hc : v20 = 0
    · have h := (if_pos hc).symm.trans h
      exact dX16_duplicate_L97 fu    a0 a1 v19 M13 hB h
    · have h := (if_neg hc).symm.trans h
      obtain ⟨v21, ev21, h⟩ := bd h
      obtain ⟨q22, eq22, h⟩ := bd h
      obtain ⟨v24, M23, eM23, h⟩ := b2d h
      have hB := dX12_behind fu q22  M13 hB eM23
      by_cases hc : (v21 + v19) = v24
      · have h := (if_pos hc).symm.trans h
        exact dX16_duplicate_L98 fu    a0 a1 v19 (1 : Int32) M23 hB h
      · have h := (if_neg hc).symm.trans h
        exact dX16_duplicate_L97 fu    a0 a1 v19 M23 hB h
  · have h := (if_neg hc).symm.trans h
    obtain ⟨v4, ev4, h⟩ := bd h
    by_cases hc : v4 ≤ (3 : Int32)
    · have h := (if_pos hc).symm.trans h
      obtain rfl := Option.some.inj h
      exact hB
    · have h := (if_neg hc).symm.trans h
      obtain ⟨v5, ev5, h⟩ := bd h
      obtain ⟨v6, ev6, h⟩ := bd h
      obtain ⟨M7, eM7, h⟩ := bd h
      have hB := d_pF hB eM7 (by decide)
      obtain rfl := Option.some.inj h
      exact hB
theorem dX16_acknowledgement_L318 (fu : Nat) {dn : Nat} {out : Int32 × Mm}   (a0 : Nat) (a1 : Option Nat) (a2 : Int32)  (M : Mm) (hB : DP dn M) (h : fX16_acknowledgement_L318 fu  a0 a1 a2 M = some out) : DP dn out.2 := by
  unfold fX16_acknowledgement_L318 at h
  by_cases hc : a2 = 0
  · have h := (if_pos hc).symm.trans h
    obtain ⟨hz, rfl⟩ := rN_some h
    exact hB
  · have h := (if_neg hc).symm.trans h
    obtain ⟨v1, ev1, h⟩ := bd h
    by_cases hc : v1 = (8 : Int32)
    · have h := (if_pos hc).symm.trans h
      obtain ⟨q2, eq2, h⟩ := bd h
      obtain ⟨M3, eM3, h⟩ := bd h
      have hB := dX16_gone fu q2 a1 M hB eM3
      obtain ⟨hz, rfl⟩ := rN_some h
      exact hB
    · have h := (if_neg hc).symm.trans h
      obtain ⟨hz, rfl⟩ := rN_some h
      exact hB
theorem dX16_acknowledgement_L289 (fu : Nat) {dn : Nat} {out : Int32 × Mm}   (a0 : Nat) (a1 : Option Nat) (a2 : Int32)  (M : Mm) (hB : DP dn M) (h : fX16_acknowledgement_L289 fu  a0 a1 a2 M = some out) : DP dn out.2 := by
  unfold fX16_acknowledgement_L289 at h
  by_cases hc : a2 = 0
  · have h := (if_pos hc).symm.trans h
    exact dX16_acknowledgement_L318 fu    a0 a1 a2 M hB h
  · have h := (if_neg hc).symm.trans h
    obtain ⟨v1, ev1, h⟩ := bd h
    by_cases hc : v1 = (5 : Int32)
    · have h := (if_pos hc).symm.trans h
      obtain ⟨M2, eM2, h⟩ := bd h
      have hB := d_pF hB eM2 (by decide)
      obtain ⟨v3, ev3, h⟩ := bd h
      obtain ⟨M4, eM4, h⟩ := bd h
      have hB := d_pF hB eM4 (by decide)
      obtain ⟨hz, rfl⟩ := rN_some h
      exact hB
    · have h := (if_neg hc).symm.trans h
      exact dX16_acknowledgement_L318 fu    a0 a1 a2 M hB h
theorem dX16_acknowledgement_L260 (fu : Nat) {dn : Nat} {out : Int32 × Mm}   (a0 : Nat) (a1 : Option Nat) (s0 : Int32) (M : Mm) (hB : DP dn M) (h : fX16_acknowledgement_L260 fu  a0 a1 s0 M = some out) : DP dn out.2 := by
  unfold fX16_acknowledgement_L260 at h
  by_cases hc : s0 = 0
  · have h := (if_pos hc).symm.trans h
    exact dX16_acknowledgement_L289 fu    a0 a1 s0 M hB h
  · have h := (if_neg hc).symm.trans h
    obtain ⟨v1, ev1, h⟩ := bd h
    by_cases hc : v1 = (3 : Int32)
    · have h := (if_pos hc).symm.trans h
      obtain ⟨M2, eM2, h⟩ := bd h
      have hB := d_pF hB eM2 (by decide)
      obtain ⟨v3, ev3, h⟩ := bd h
      obtain ⟨M4, eM4, h⟩ := bd h
      have hB := d_pF hB eM4 (by decide)
      obtain ⟨hz, rfl⟩ := rN_some h
      exact hB
    · have h := (if_neg hc).symm.trans h
      exact dX16_acknowledgement_L289 fu    a0 a1 s0 M hB h
theorem dX16_acknowledgement_L259 (fu : Nat) {dn : Nat} {out : Int32 × Mm}   (a0 : Nat) (a1 : Option Nat)  (M : Mm) (hB : DP dn M) (h : fX16_acknowledgement_L259 fu  a0 a1 M = some out) : DP dn out.2 := by
  unfold fX16_acknowledgement_L259 at h
  exact dX16_acknowledgement_L260 fu    a0 a1 (0 : Int32) M hB h
theorem dX16_acknowledgement_L235 (fu : Nat) {dn : Nat} {out : Int32 × Mm}   (a0 : Nat) (a1 : Option Nat)  (M : Mm) (hB : DP dn M) (h : fX16_acknowledgement_L235 fu  a0 a1 M = some out) : DP dn out.2 := by
  unfold fX16_acknowledgement_L235 at h
  obtain ⟨v1, ev1, h⟩ := bd h
  by_cases hc : v1 = 0
  · have h := (if_pos hc).symm.trans h
    exact dX16_acknowledgement_L259 fu    a0 a1 M hB h
  · have h := (if_neg hc).symm.trans h
    obtain ⟨v2, ev2, h⟩ := bd h
    obtain ⟨q3, eq3, h⟩ := bd h
    obtain ⟨v5, M4, eM4, h⟩ := b2d h
    have hB := dX12_behind fu q3  M hB eM4
    by_cases hc : v2 = (v5 + (1 : Int32))
    · have h := (if_pos hc).symm.trans h
      exact dX16_acknowledgement_L260 fu    a0 a1 (1 : Int32) M4 hB h
    · have h := (if_neg hc).symm.trans h
      exact dX16_acknowledgement_L259 fu    a0 a1 M4 hB h
theorem dX16_acknowledgement_L209 (fu : Nat) {dn : Nat} {out : Int32 × Mm}   (a0 : Nat) (a1 : Option Nat)  (M : Mm) (hB : DP dn M) (h : fX16_acknowledgement_L209 fu  a0 a1 M = some out) : DP dn out.2 := by
  unfold fX16_acknowledgement_L209 at h
  obtain ⟨v1, ev1, h⟩ := bd h
  obtain ⟨v2, ev2, h⟩ := bd h
  obtain ⟨v4, M3, eM3, h⟩ := b2d h
  have hB := dX16_before fu  v1 v2 M hB eM3
  by_cases hc : v4 = 0
  · have h := (if_pos hc).symm.trans h
    obtain ⟨v5, ev5, h⟩ := bd h
    by_cases hc : v5 = 0
    · have h := (if_pos hc).symm.trans h
      obtain ⟨M6, eM6, h⟩ := bd h
      have hB := d_pF hB eM6 (by decide)
      exact dX16_acknowledgement_L235 fu    a0 a1 M6 hB h
    · have h := (if_neg hc).symm.trans h
      exact dX16_acknowledgement_L235 fu    a0 a1 M3 hB h
  · have h := (if_neg hc).symm.trans h
    exact dX16_acknowledgement_L235 fu    a0 a1 M3 hB h
theorem dX16_acknowledgement_L204 (fu : Nat) {dn : Nat} {out : Int32 × Mm}   (a0 : Nat) (a1 : Option Nat)  (M : Mm) (hB : DP dn M) (h : fX16_acknowledgement_L204 fu  a0 a1 M = some out) : DP dn out.2 := by
  unfold fX16_acknowledgement_L204 at h
  obtain ⟨q1, eq1, h⟩ := bd h
  obtain ⟨M2, eM2, h⟩ := bd h
  have hB := dX16_takeWindow fu q1 a1 M hB eM2
  exact dX16_acknowledgement_L209 fu    a0 a1 M2 hB h
theorem dX16_acknowledgement_L151 (fu : Nat) {dn : Nat} {out : Int32 × Mm}   (a0 : Nat) (a1 : Option Nat)  (M : Mm) (hB : DP dn M) (h : fX16_acknowledgement_L151 fu  a0 a1 M = some out) : DP dn out.2 := by
  unfold fX16_acknowledgement_L151 at h
  obtain ⟨v1, ev1, h⟩ := bd h
  obtain ⟨v2, ev2, h⟩ := bd h
  obtain ⟨v4, M3, eM3, h⟩ := b2d h
  have hB := dX16_before fu  v1 v2 M hB eM3
  by_cases hc : v4 = 0
  · have h := (if_pos hc).symm.trans h
    obtain ⟨v5, ev5, h⟩ := bd h
    obtain ⟨v6, ev6, h⟩ := bd h
    obtain ⟨v8, M7, eM7, h⟩ := b2d h
    have hB := dX16_before fu  v5 v6 M3 hB eM7
    by_cases hc : v8 = 0
    · have h := (if_pos hc).symm.trans h
      obtain ⟨v9, ev9, h⟩ := bd h
      obtain ⟨v10, ev10, h⟩ := bd h
      by_cases hc : v9 = v10
      · have h := (if_pos hc).symm.trans h
        obtain ⟨v11, ev11, h⟩ := bd h
        obtain ⟨v12, ev12, h⟩ := bd h
        obtain ⟨v14, M13, eM13, h⟩ := b2d h
        have hB := dX16_before fu  v11 v12 M7 hB eM13
        by_cases hc : v14 = 0
        · have h := (if_pos hc).symm.trans h
          exact dX16_acknowledgement_L204 fu    a0 a1 M13 hB h
        · have h := (if_neg hc).symm.trans h
          exact dX16_acknowledgement_L209 fu    a0 a1 M13 hB h
      · have h := (if_neg hc).symm.trans h
        exact dX16_acknowledgement_L209 fu    a0 a1 M7 hB h
    · have h := (if_neg hc).symm.trans h
      exact dX16_acknowledgement_L204 fu    a0 a1 M7 hB h
  · have h := (if_neg hc).symm.trans h
    exact dX16_acknowledgement_L209 fu    a0 a1 M3 hB h
theorem dX16_acknowledgement (fu : Nat) {dn : Nat} (hn : dn < 1000000) {out : Int32 × Mm}   (a0 : Nat) (a1 : Option Nat)  (M : Mm) (hB : DP dn M) (h : fX16_acknowledgement fu  a0 a1 M = some out) : DP (dn + 1) out.2 := by
  unfold fX16_acknowledgement at h
  obtain ⟨v1, ev1, h⟩ := bd h
  by_cases hc : v1 = (1 : Int32)
  · have h := (if_pos hc).symm.trans h
    obtain ⟨v27, ev27, h⟩ := bd h
    obtain ⟨v28, ev28, h⟩ := bd h
    by_cases hc : v27 = (v28 + (1 : Int32))
    · have h := (if_pos hc).symm.trans h
      obtain ⟨q29, eq29, h⟩ := bd h
      obtain ⟨M30, eM30, h⟩ := bd h
      have hB := dX16_fresh fu q29 a1 M hB eM30
      obtain ⟨M31, eM31, h⟩ := bd h
      have hB := d_pF hB eM31 (by decide)
      obtain ⟨v32, ev32, h⟩ := bd h
      obtain ⟨M33, eM33, h⟩ := bd h
      have hB := d_pF hB eM33 (by decide)
      obtain ⟨v34, ev34, h⟩ := bd h
      obtain ⟨M35, eM35, h⟩ := bd h
      have hB := d_pF hB eM35 (by decide)
      obtain ⟨q36, eq36, h⟩ := bd h
      obtain ⟨M37, eM37, h⟩ := bd h
      have hB := dX16_takeWindow fu q36 a1 M35 hB eM37
      obtain ⟨hz, rfl⟩ := rN_some h
      exact DP_s hB
    · have h := (if_neg hc).symm.trans h
      obtain ⟨q38, eq38, h⟩ := bd h
      obtain ⟨M39, eM39, h⟩ := bd h
      have hB := dX16_reset fu q38  M hB eM39
      obtain ⟨hz, rfl⟩ := rN_some h
      exact DP_s hB
  · have h := (if_neg hc).symm.trans h
    obtain ⟨v2, ev2, h⟩ := bd h
    obtain ⟨v3, ev3, h⟩ := bd h
    obtain ⟨v5, M4, eM4, h⟩ := b2d h
    have hB := dX16_isBehind fu  v2 v3 M hB eM4
    by_cases hc : v5 = 0
    · have h := (if_pos hc).symm.trans h
      obtain ⟨v6, ev6, h⟩ := bd h
      obtain ⟨v7, ev7, h⟩ := bd h
      obtain ⟨v9, M8, eM8, h⟩ := b2d h
      have hB := dX16_isBehind fu  v6 v7 M4 hB eM8
      by_cases hc : v9 = 0
      · have h := (if_pos hc).symm.trans h
        obtain ⟨v10, ev10, h⟩ := bd h
        obtain ⟨v11, ev11, h⟩ := bd h
        by_cases hc : v10 = v11
        · have h := (if_pos hc).symm.trans h
          obtain ⟨q12, eq12, h⟩ := bd h
          obtain ⟨v14, M13, eM13, h⟩ := b2d h
          have hB := dX16_extent fu q12  M8 hB eM13
          by_cases hc : v14 = 0
          · have h := (if_pos hc).symm.trans h
            obtain ⟨v15, ev15, h⟩ := bd h
            obtain ⟨v16, ev16, h⟩ := bd h
            by_cases hc : v15 = v16
            · have h := (if_pos hc).symm.trans h
              obtain ⟨v17, ev17, h⟩ := bd h
              obtain ⟨v18, ev18, h⟩ := bd h
              obtain ⟨v20, M19, eM19, h⟩ := b2d h
              have hB := dX16_before fu  v17 v18 M13 hB eM19
              by_cases hc : v20 = 0
              · have h := (if_pos hc).symm.trans h
                exact DP_s (dX16_acknowledgement_L151 fu    a0 a1 M19 hB h)
              · have h := (if_neg hc).symm.trans h
                obtain ⟨q21, eq21, h⟩ := bd h
                obtain ⟨M22, eM22, h⟩ := bd h
                have hB := dX16_duplicate fu hn q21 a1 M19 hB eM22
                exact dX16_acknowledgement_L151 fu    a0 a1 M22 hB h
            · have h := (if_neg hc).symm.trans h
              exact DP_s (dX16_acknowledgement_L151 fu    a0 a1 M13 hB h)
          · have h := (if_neg hc).symm.trans h
            exact DP_s (dX16_acknowledgement_L151 fu    a0 a1 M13 hB h)
        · have h := (if_neg hc).symm.trans h
          exact DP_s (dX16_acknowledgement_L151 fu    a0 a1 M8 hB h)
      · have h := (if_neg hc).symm.trans h
        obtain ⟨q23, eq23, h⟩ := bd h
        obtain ⟨M24, eM24, h⟩ := bd h
        have hB := dX16_fresh fu q23 a1 M8 hB eM24
        exact DP_s (dX16_acknowledgement_L151 fu    a0 a1 M24 hB h)
    · have h := (if_neg hc).symm.trans h
      obtain ⟨q25, eq25, h⟩ := bd h
      obtain ⟨M26, eM26, h⟩ := bd h
      have hB := dX16_acknowledge fu q25 a1 M4 hB eM26
      obtain ⟨hz, rfl⟩ := rN_some h
      exact DP_s hB
theorem dX16_takesData (fu : Nat) {dn : Nat} {out : Int32 × Mm}   (a0 : Option Nat)  (M : Mm) (hB : DP dn M) (h : fX16_takesData fu  a0 M = some out) : DP dn out.2 := by
  unfold fX16_takesData at h
  obtain ⟨v1, ev1, h⟩ := bd h
  by_cases hc : v1 = (2 : Int32)
  · have h := (if_pos hc).symm.trans h
    obtain ⟨hz, rfl⟩ := rN_some h
    exact hB
  · have h := (if_neg hc).symm.trans h
    obtain ⟨v2, ev2, h⟩ := bd h
    by_cases hc : v2 = (3 : Int32)
    · have h := (if_pos hc).symm.trans h
      obtain ⟨hz, rfl⟩ := rN_some h
      exact hB
    · have h := (if_neg hc).symm.trans h
      obtain ⟨v3, ev3, h⟩ := bd h
      by_cases hc : v3 = (4 : Int32)
      · have h := (if_pos hc).symm.trans h
        obtain ⟨hz, rfl⟩ := rN_some h
        exact hB
      · have h := (if_neg hc).symm.trans h
        obtain ⟨hz, rfl⟩ := rN_some h
        exact hB
theorem dX16_arrived_L323 (fu : Nat) {dn : Nat} {out : Mm}   (a0 : Nat) (a1 : Option Nat) (s0 : Option Nat) (s1 : Int32) (M : Mm) (hB : DP dn M) (h : fX16_arrived_L323 fu  a0 a1 s0 s1 M = some out) : DP dn out := by
  unfold fX16_arrived_L323 at h
  obtain ⟨M1, eM1, h⟩ := bd h
  have hB := d_pF hB eM1 (by decide)
  obtain ⟨v2, ev2, h⟩ := bd h
  obtain ⟨M3, eM3, h⟩ := bd h
  have hB := d_pF hB eM3 (by decide)
  obtain rfl := Option.some.inj h
  exact hB
theorem dX16_arrived_L246 (fu : Nat) {dn : Nat} {out : Mm}   (a0 : Nat) (a1 : Option Nat)  (M : Mm) (hB : DP dn M) (h : fX16_arrived_L246 fu  a0 a1 M = some out) : DP dn out := by
  unfold fX16_arrived_L246 at h
  obtain ⟨v1, ev1, h⟩ := bd h
  by_cases hc : v1 = 0
  · have h := (if_pos hc).symm.trans h
    obtain rfl := Option.some.inj h
    exact hB
  · have h := (if_neg hc).symm.trans h
    obtain ⟨v2, ev2, h⟩ := bd h
    by_cases hc : v2 = 0
    · have h := (if_pos hc).symm.trans h
      obtain ⟨v3, ev3, h⟩ := bd h
      obtain ⟨v4, ev4, h⟩ := bd h
      by_cases hc : v3 = v4
      · have h := (if_pos hc).symm.trans h
        obtain ⟨M5, eM5, h⟩ := bd h
        have hB := d_pZ hB eM5 (by decide)
        obtain ⟨v6, ev6, h⟩ := bd h
        obtain ⟨M7, eM7, h⟩ := bd h
        have hB := d_pF hB eM7 (by decide)
        obtain ⟨M8, eM8, h⟩ := bd h
        have hB := d_pZ hB eM8 (by decide)
        obtain ⟨v9, ev9, h⟩ := bd h
        by_cases hc : v9 = (2 : Int32)
        · have h := (if_pos hc).symm.trans h
          obtain ⟨M11, eM11, h⟩ := bd h
          have hB := d_pF hB eM11 (by decide)
          obtain rfl := Option.some.inj h
          exact hB
        · have h := (if_neg hc).symm.trans h
          obtain ⟨v10, ev10, h⟩ := bd h
          by_cases hc : v10 = (3 : Int32)
          · have h := (if_pos hc).symm.trans h
            exact dX16_arrived_L323 fu    a0 a1 a1 (5 : Int32) M8 hB h
          · have h := (if_neg hc).symm.trans h
            exact dX16_arrived_L323 fu    a0 a1 a1 (6 : Int32) M8 hB h
      · have h := (if_neg hc).symm.trans h
        obtain rfl := Option.some.inj h
        exact hB
    · have h := (if_neg hc).symm.trans h
      obtain rfl := Option.some.inj h
      exact hB
theorem dX16_arrived_L233 (fu : Nat) {dn : Nat} {out : Mm}   (a0 : Nat) (a1 : Option Nat)  (M : Mm) (hB : DP dn M) (h : fX16_arrived_L233 fu  a0 a1 M = some out) : DP dn out := by
  unfold fX16_arrived_L233 at h
  obtain ⟨q1, eq1, h⟩ := bd h
  obtain ⟨v3, M2, eM2, h⟩ := b2d h
  have hB := dX16_is fu q1 (1 : Int32) M hB eM2
  by_cases hc : v3 = 0
  · have h := (if_pos hc).symm.trans h
    exact dX16_arrived_L246 fu    a0 a1 M2 hB h
  · have h := (if_neg hc).symm.trans h
    obtain ⟨M4, eM4, h⟩ := bd h
    have hB := d_pZ hB eM4 (by decide)
    exact dX16_arrived_L246 fu    a0 a1 M4 hB h
theorem dX16_arrived_L176 (fu : Nat) {dn : Nat} {out : Mm}   (a0 : Nat) (a1 : Option Nat) (a2 : Int32) (a3 : Int32)  (M : Mm) (hB : DP dn M) (h : fX16_arrived_L176 fu  a0 a1 a2 a3 M = some out) : DP dn out := by
  unfold fX16_arrived_L176 at h
  obtain ⟨q1, eq1, h⟩ := bd h
  obtain ⟨v3, M2, eM2, h⟩ := b2d h
  have hB := dX16_is fu q1 (1 : Int32) M hB eM2
  by_cases hc : v3 = 0
  · have h := (if_pos hc).symm.trans h
    exact dX16_arrived_L233 fu    a0 a1 M2 hB h
  · have h := (if_neg hc).symm.trans h
    obtain ⟨v4, ev4, h⟩ := bd h
    by_cases hc : v4 = 0
    · have h := (if_pos hc).symm.trans h
      obtain ⟨v5, ev5, h⟩ := bd h
      obtain ⟨v6, ev6, h⟩ := bd h
      obtain ⟨v8, M7, eM7, h⟩ := b2d h
      have hB := dX16_before fu  (v5 + v6) a3 M2 hB eM7
      by_cases hc : v8 = 0
      · have h := (if_pos hc).symm.trans h
        obtain ⟨v10, M9, eM9, h⟩ := b2d h
        have hB := dX16_before fu  (v5 + v6) (a3 + a2) M7 hB eM9
        by_cases hc : v10 = 0
        · have h := (if_pos hc).symm.trans h
          exact dX16_arrived_L233 fu    a0 a1 M9 hB h
        · have h := (if_neg hc).symm.trans h
          obtain ⟨M11, eM11, h⟩ := bd h
          have hB := d_pZ hB eM11 (by decide)
          obtain ⟨M12, eM12, h⟩ := bd h
          have hB := d_pF hB eM12 (by decide)
          exact dX16_arrived_L233 fu    a0 a1 M12 hB h
      · have h := (if_neg hc).symm.trans h
        exact dX16_arrived_L233 fu    a0 a1 M7 hB h
    · have h := (if_neg hc).symm.trans h
      exact dX16_arrived_L233 fu    a0 a1 M2 hB h
theorem dX16_arrived_L131 (fu : Nat) {dn : Nat} {out : Mm}   : ∀ (n : Nat) (a0 : Nat) (a1 : Option Nat) (a2 : Int32) (a3 : Int32)  (M : Mm), DP dn M → fX16_arrived_L131 fu  n a0 a1 a2 a3 M = some out → DP dn out := by
  intro n
  induction n with
  | zero =>
    intro a0 a1 a2 a3 M hB h
    have h : (none : Option (Mm)) = some out := h
    cases h
  | succ n ih =>
    intro a0 a1 a2 a3 M hB h
    rw [fX16_arrived_L131] at h
    obtain ⟨v1, ev1, h⟩ := bd h
    obtain ⟨v2, ev2, h⟩ := bd h
    by_cases hc : (4096 : Int32) ≤ (v1 - v2)
    · have h := (if_pos hc).symm.trans h
      exact dX16_arrived_L176 fu    a0 a1 a2 a3 M hB h
    · have h := (if_neg hc).symm.trans h
      obtain ⟨v3, ev3, h⟩ := bd h
      obtain ⟨v4, ev4, h⟩ := bd h
      obtain ⟨v5, ev5, h⟩ := bd h
      obtain ⟨v6, ev6, h⟩ := bd h
      by_cases hc : v6 = 0
      · have h := (if_pos hc).symm.trans h
        exact dX16_arrived_L176 fu    a0 a1 a2 a3 M hB h
      · have h := (if_neg hc).symm.trans h
        obtain ⟨v7, ev7, h⟩ := bd h
        obtain ⟨M8, eM8, h⟩ := bd h
        have hB := d_pF hB eM8 (by decide)
        exact ih a0 a1 a2 a3 M8 hB h
theorem dX16_arrived_L125 (fu : Nat) {dn : Nat} {out : Mm} (k41 : Nat → Option Nat → Int32 → Int32 → Int32 → Mm → Option (Mm)) (hk41 : ∀ (b0 : Nat) (b1 : Option Nat) (b2 : Int32) (b3 : Int32) (b4 : Int32)  (M : Mm), DP dn M → k41 b0 b1 b2 b3 b4 M = some out → DP dn out) (a0 : Nat) (a1 : Option Nat) (a2 : Int32) (a3 : Int32) (a4 : Int32)  (M : Mm) (hB : DP dn M) (h : fX16_arrived_L125 fu k41 a0 a1 a2 a3 a4 M = some out) : DP dn out := by
  unfold fX16_arrived_L125 at h
  exact hk41 a0 a1 a2 a3 (a4 + (1 : Int32)) M hB h
theorem dX16_arrived_L41 (fu : Nat) {dn : Nat} {out : Mm}   : ∀ (n : Nat) (a0 : Nat) (a1 : Option Nat) (a2 : Int32) (a3 : Int32) (a4 : Int32)  (M : Mm), DP dn M → fX16_arrived_L41 fu  n a0 a1 a2 a3 a4 M = some out → DP dn out := by
  intro n
  induction n with
  | zero =>
    intro a0 a1 a2 a3 a4 M hB h
    have h : (none : Option (Mm)) = some out := h
    cases h
  | succ n ih =>
    intro a0 a1 a2 a3 a4 M hB h
    rw [fX16_arrived_L41] at h
    obtain ⟨v1, ev1, h⟩ := bd h
    by_cases hc : v1 ≤ a4
    · have h := (if_pos hc).symm.trans h
      exact dX16_arrived_L131 fu   fu a0 a1 a2 a3 M hB h
    · have h := (if_neg hc).symm.trans h
      obtain ⟨v2, ev2, h⟩ := bd h
      obtain ⟨v4, M3, eM3, h⟩ := b2d h
      have hB := dX16_before fu  (v2 + a4) a3 M hB eM3
      by_cases hc : v4 = 0
      · have h := (if_pos hc).symm.trans h
        obtain ⟨v6, M5, eM5, h⟩ := b2d h
        have hB := dX16_before fu  (v2 + a4) (a3 + a2) M3 hB eM5
        by_cases hc : v6 = 0
        · have h := (if_pos hc).symm.trans h
          exact dX16_arrived_L125 fu (fun b0 b1 b2 b3 b4 M => fX16_arrived_L41 fu  n b0 b1 b2 b3 b4 M) ih  a0 a1 a2 a3 a4 M5 hB h
        · have h := (if_neg hc).symm.trans h
          obtain ⟨v7, ev7, h⟩ := bd h
          obtain ⟨v8, ev8, h⟩ := bd h
          obtain ⟨v9, ev9, h⟩ := bd h
          by_cases hc : v9 = 0
          · have h := (if_pos hc).symm.trans h
            obtain ⟨v10, ev10, h⟩ := bd h
            obtain ⟨M11, eM11, h⟩ := bd h
            have hB := d_pA hB eM11
            obtain ⟨v12, ev12, h⟩ := bd h
            obtain ⟨v13, ev13, h⟩ := bd h
            obtain ⟨v14, ev14, h⟩ := bd h
            obtain ⟨v15, ev15, h⟩ := bd h
            obtain ⟨M16, eM16, h⟩ := bd h
            have hB := d_pA hB eM16
            exact dX16_arrived_L125 fu (fun b0 b1 b2 b3 b4 M => fX16_arrived_L41 fu  n b0 b1 b2 b3 b4 M) ih  a0 a1 a2 a3 a4 M16 hB h
          · have h := (if_neg hc).symm.trans h
            exact dX16_arrived_L125 fu (fun b0 b1 b2 b3 b4 M => fX16_arrived_L41 fu  n b0 b1 b2 b3 b4 M) ih  a0 a1 a2 a3 a4 M5 hB h
      · have h := (if_neg hc).symm.trans h
        exact dX16_arrived_L125 fu (fun b0 b1 b2 b3 b4 M => fX16_arrived_L41 fu  n b0 b1 b2 b3 b4 M) ih  a0 a1 a2 a3 a4 M3 hB h
theorem dX16_arrived_L38 (fu : Nat) {dn : Nat} {out : Mm}   (a0 : Nat) (a1 : Option Nat) (a2 : Int32) (a3 : Int32)  (M : Mm) (hB : DP dn M) (h : fX16_arrived_L38 fu  a0 a1 a2 a3 M = some out) : DP dn out := by
  unfold fX16_arrived_L38 at h
  exact dX16_arrived_L41 fu   fu a0 a1 a2 a3 (0 : Int32) M hB h
theorem dX16_arrived (fu : Nat) {dn : Nat} {out : Mm}   (a0 : Nat) (a1 : Option Nat)  (M : Mm) (hB : DP dn M) (h : fX16_arrived fu  a0 a1 M = some out) : DP dn out := by
  unfold fX16_arrived at h
  obtain ⟨v2, M1, eM1, h⟩ := b2d h
  have hB := dX16_takesData fu  a1 M hB eM1
  by_cases hc : v2 = 0
  · have h := (if_pos hc).symm.trans h
    obtain rfl := Option.some.inj h
    exact hB
  · have h := (if_neg hc).symm.trans h
    obtain ⟨q3, eq3, h⟩ := bd h
    obtain ⟨v5, M4, eM4, h⟩ := b2d h
    have hB := dX12_open fu q3  M1 hB eM4
    obtain ⟨v6, ev6, h⟩ := bd h
    obtain ⟨v7, ev7, h⟩ := bd h
    by_cases hc : v7 ≤ 0
    · have h := (if_pos hc).symm.trans h
      exact dX16_arrived_L38 fu    a0 a1 v5 v6 M4 hB h
    · have h := (if_neg hc).symm.trans h
      obtain ⟨M8, eM8, h⟩ := bd h
      have hB := d_pZ hB eM8 (by decide)
      obtain ⟨v9, ev9, h⟩ := bd h
      obtain ⟨M10, eM10, h⟩ := bd h
      have hB := d_pF hB eM10 (by decide)
      exact dX16_arrived_L38 fu    a0 a1 v5 v6 M10 hB h
theorem dX16_take_L71 (fu : Nat) {dn : Nat} {out : Mm} (k2 : Option Nat → Int32 → Int32 → Mm → Option (Mm)) (hk2 : ∀ (b1 : Option Nat) (b2 : Int32) (b3 : Int32)  (M : Mm), DP dn M → k2 b1 b2 b3 M = some out → DP dn out) (a1 : Option Nat) (a2 : Int32) (a3 : Int32)  (M : Mm) (hB : DP dn M) (h : fX16_take_L71 fu k2 a1 a2 a3 M = some out) : DP dn out := by
  unfold fX16_take_L71 at h
  exact hk2 a1 a2 (a3 + (1 : Int32)) M hB h
theorem dX16_take_L51 (fu : Nat) {dn : Nat} {out : Mm} (k2 : Option Nat → Int32 → Int32 → Mm → Option (Mm)) (hk2 : ∀ (b1 : Option Nat) (b2 : Int32) (b3 : Int32)  (M : Mm), DP dn M → k2 b1 b2 b3 M = some out → DP dn out) (a1 : Option Nat) (a2 : Int32) (a3 : Int32) (a4 : Int32) (s0 : Option Nat) (s1 : Int32) (s2 : Int32) (M : Mm) (hB : DP dn M) (h : fX16_take_L51 fu k2 a1 a2 a3 a4 s0 s1 s2 M = some out) : DP dn out := by
  unfold fX16_take_L51 at h
  obtain ⟨M1, eM1, h⟩ := bd h
  have hB := d_pA hB eM1
  by_cases hc : a4 = 0
  · have h := (if_pos hc).symm.trans h
    exact dX16_take_L71 fu k2 hk2  a1 a2 a3 M1 hB h
  · have h := (if_neg hc).symm.trans h
    obtain ⟨v2, ev2, h⟩ := bd h
    obtain ⟨v3, ev3, h⟩ := bd h
    obtain ⟨v4, ev4, h⟩ := bd h
    obtain ⟨M5, eM5, h⟩ := bd h
    have hB := d_pA hB eM5
    exact dX16_take_L71 fu k2 hk2  a1 a2 a3 M5 hB h
theorem dX16_take_L50 (fu : Nat) {dn : Nat} {out : Mm} (k2 : Option Nat → Int32 → Int32 → Mm → Option (Mm)) (hk2 : ∀ (b1 : Option Nat) (b2 : Int32) (b3 : Int32)  (M : Mm), DP dn M → k2 b1 b2 b3 M = some out → DP dn out) (a1 : Option Nat) (a2 : Int32) (a3 : Int32) (a4 : Int32) (s0 : Option Nat) (s1 : Int32) (M : Mm) (hB : DP dn M) (h : fX16_take_L50 fu k2 a1 a2 a3 a4 s0 s1 M = some out) : DP dn out := by
  unfold fX16_take_L50 at h
  exact dX16_take_L51 fu k2 hk2  a1 a2 a3 a4 s0 s1 (0 : Int32) M hB h
theorem dX16_take_L23 (fu : Nat) {dn : Nat} {out : Mm} (k2 : Option Nat → Int32 → Int32 → Mm → Option (Mm)) (hk2 : ∀ (b1 : Option Nat) (b2 : Int32) (b3 : Int32)  (M : Mm), DP dn M → k2 b1 b2 b3 M = some out → DP dn out) (a1 : Option Nat) (a2 : Int32) (a3 : Int32) (s0 : Int32) (M : Mm) (hB : DP dn M) (h : fX16_take_L23 fu k2 a1 a2 a3 s0 M = some out) : DP dn out := by
  unfold fX16_take_L23 at h
  obtain ⟨v1, ev1, h⟩ := bd h
  by_cases hc : s0 = 0
  · have h := (if_pos hc).symm.trans h
    exact dX16_take_L50 fu k2 hk2  a1 a2 a3 s0 v1 a3 M hB h
  · have h := (if_neg hc).symm.trans h
    obtain ⟨v2, ev2, h⟩ := bd h
    obtain ⟨v3, ev3, h⟩ := bd h
    by_cases hc : v3 = 0
    · have h := (if_pos hc).symm.trans h
      exact dX16_take_L50 fu k2 hk2  a1 a2 a3 s0 v1 a3 M hB h
    · have h := (if_neg hc).symm.trans h
      exact dX16_take_L51 fu k2 hk2  a1 a2 a3 s0 v1 a3 (1 : Int32) M hB h
theorem dX16_take_L2 (fu : Nat) {dn : Nat} {out : Mm}   : ∀ (n : Nat) (a1 : Option Nat) (a2 : Int32) (a3 : Int32)  (M : Mm), DP dn M → fX16_take_L2 fu  n a1 a2 a3 M = some out → DP dn out := by
  intro n
  induction n with
  | zero =>
    intro a1 a2 a3 M hB h
    have h : (none : Option (Mm)) = some out := h
    cases h
  | succ n ih =>
    intro a1 a2 a3 M hB h
    rw [fX16_take_L2] at h
    by_cases hc : (4096 : Int32) ≤ a3
    · have h := (if_pos hc).symm.trans h
      obtain ⟨v1, ev1, h⟩ := bd h
      obtain ⟨M2, eM2, h⟩ := bd h
      have hB := d_pF hB eM2 (by decide)
      obtain ⟨q3, eq3, h⟩ := bd h
      obtain ⟨v5, M4, eM4, h⟩ := b2d h
      have hB := dX12_open fu q3  M2 hB eM4
      obtain ⟨v6, ev6, h⟩ := bd h
      by_cases hc : (v5 - v6) < (2048 : Int32)
      · have h := (if_pos hc).symm.trans h
        obtain rfl := Option.some.inj h
        exact hB
      · have h := (if_neg hc).symm.trans h
        obtain ⟨M7, eM7, h⟩ := bd h
        have hB := d_pZ hB eM7 (by decide)
        obtain rfl := Option.some.inj h
        exact hB
    · have h := (if_neg hc).symm.trans h
      by_cases hc : (4096 : Int32) ≤ (a3 + a2)
      · have h := (if_pos hc).symm.trans h
        exact dX16_take_L23 fu (fun b1 b2 b3 M => fX16_take_L2 fu  n b1 b2 b3 M) ih  a1 a2 a3 (0 : Int32) M hB h
      · have h := (if_neg hc).symm.trans h
        exact dX16_take_L23 fu (fun b1 b2 b3 M => fX16_take_L2 fu  n b1 b2 b3 M) ih  a1 a2 a3 (1 : Int32) M hB h
theorem dX16_take (fu : Nat) {dn : Nat} {out : Mm}   (a0 : Nat) (a1 : Option Nat) (a2 : Int32)  (M : Mm) (hB : DP dn M) (h : fX16_take fu  a0 a1 a2 M = some out) : DP dn out := by
  unfold fX16_take at h
  exact dX16_take_L2 fu   fu a1 a2 (0 : Int32) M hB h
theorem dX16_byteAt (fu : Nat) {dn : Nat} {out : Int32 × Mm}   (a0 : Option Nat) (a1 : Int32)  (M : Mm) (hB : DP dn M) (h : fX16_byteAt fu  a0 a1 M = some out) : DP dn out.2 := by
  unfold fX16_byteAt at h
  obtain ⟨q1, eq1, h⟩ := bd h
  obtain ⟨v3, M2, eM2, h⟩ := b2d h
  have hB := dX12_held fu q1  M hB eM2
  by_cases hc : v3 ≤ a1
  · have h := (if_pos hc).symm.trans h
    obtain rfl := Option.some.inj h
    exact hB
  · have h := (if_neg hc).symm.trans h
    obtain ⟨v4, ev4, h⟩ := bd h
    obtain ⟨v5, ev5, h⟩ := bd h
    obtain rfl := Option.some.inj h
    exact hB
theorem dX16_headBytes_L73 (fu : Nat) {dn : Nat} {out : Int32 × Mm} (k10 : Option Nat → Int32 → Int32 → Int32 → Mm → Option (Int32 × Mm)) (hk10 : ∀ (b1 : Option Nat) (b2 : Int32) (b3 : Int32) (b4 : Int32)  (M : Mm), DP dn M → k10 b1 b2 b3 b4 M = some out → DP dn out.2) (a1 : Option Nat) (a2 : Int32) (a3 : Int32) (a4 : Int32)  (M : Mm) (hB : DP dn M) (h : fX16_headBytes_L73 fu k10 a1 a2 a3 a4 M = some out) : DP dn out.2 := by
  unfold fX16_headBytes_L73 at h
  exact hk10 a1 a2 a3 (a4 + (1 : Int32)) M hB h
theorem dX16_headBytes_L56 (fu : Nat) {dn : Nat} {out : Int32 × Mm} (k10 : Option Nat → Int32 → Int32 → Int32 → Mm → Option (Int32 × Mm)) (hk10 : ∀ (b1 : Option Nat) (b2 : Int32) (b3 : Int32) (b4 : Int32)  (M : Mm), DP dn M → k10 b1 b2 b3 b4 M = some out → DP dn out.2) (a1 : Option Nat) (a3 : Int32) (a4 : Int32) (s0 : Int32) (M : Mm) (hB : DP dn M) (h : fX16_headBytes_L56 fu k10 a1 a3 a4 s0 M = some out) : DP dn out.2 := by
  unfold fX16_headBytes_L56 at h
  by_cases hc : s0 = 0
  · have h := (if_pos hc).symm.trans h
    exact dX16_headBytes_L73 fu k10 hk10  a1 (a4 + (1 : Int32)) a3 a4 M hB h
  · have h := (if_neg hc).symm.trans h
    obtain rfl := Option.some.inj h
    exact hB
theorem dX16_headBytes_L51 (fu : Nat) {dn : Nat} {out : Int32 × Mm} (k10 : Option Nat → Int32 → Int32 → Int32 → Mm → Option (Int32 × Mm)) (hk10 : ∀ (b1 : Option Nat) (b2 : Int32) (b3 : Int32) (b4 : Int32)  (M : Mm), DP dn M → k10 b1 b2 b3 b4 M = some out → DP dn out.2) (a1 : Option Nat) (a3 : Int32) (a4 : Int32)  (M : Mm) (hB : DP dn M) (h : fX16_headBytes_L51 fu k10 a1 a3 a4 M = some out) : DP dn out.2 := by
  unfold fX16_headBytes_L51 at h
  exact dX16_headBytes_L56 fu k10 hk10  a1 a3 a4 (1 : Int32) M hB h
theorem dX16_headBytes_L55 (fu : Nat) {dn : Nat} {out : Int32 × Mm} (k10 : Option Nat → Int32 → Int32 → Int32 → Mm → Option (Int32 × Mm)) (hk10 : ∀ (b1 : Option Nat) (b2 : Int32) (b3 : Int32) (b4 : Int32)  (M : Mm), DP dn M → k10 b1 b2 b3 b4 M = some out → DP dn out.2) (a1 : Option Nat) (a3 : Int32) (a4 : Int32)  (M : Mm) (hB : DP dn M) (h : fX16_headBytes_L55 fu k10 a1 a3 a4 M = some out) : DP dn out.2 := by
  unfold fX16_headBytes_L55 at h
  exact dX16_headBytes_L56 fu k10 hk10  a1 a3 a4 (0 : Int32) M hB h
theorem dX16_headBytes_L10 (fu : Nat) {dn : Nat} {out : Int32 × Mm}   : ∀ (n : Nat) (a1 : Option Nat) (a2 : Int32) (a3 : Int32) (a4 : Int32)  (M : Mm), DP dn M → fX16_headBytes_L10 fu  n a1 a2 a3 a4 M = some out → DP dn out.2 := by
  intro n
  induction n with
  | zero =>
    intro a1 a2 a3 a4 M hB h
    have h : (none : Option (Int32 × Mm)) = some out := h
    cases h
  | succ n ih =>
    intro a1 a2 a3 a4 M hB h
    rw [fX16_headBytes_L10] at h
    by_cases hc : a3 ≤ a4
    · have h := (if_pos hc).symm.trans h
      obtain rfl := Option.some.inj h
      exact hB
    · have h := (if_neg hc).symm.trans h
      obtain ⟨v2, M1, eM1, h⟩ := b2d h
      have hB := dX16_byteAt fu  a1 a4 M hB eM1
      by_cases hc : v2 = (10 : Int32)
      · have h := (if_pos hc).symm.trans h
        by_cases hc : a4 = a2
        · have h := (if_pos hc).symm.trans h
          exact dX16_headBytes_L51 fu (fun b1 b2 b3 b4 M => fX16_headBytes_L10 fu  n b1 b2 b3 b4 M) ih  a1 a3 a4 M1 hB h
        · have h := (if_neg hc).symm.trans h
          by_cases hc : a4 = (a2 + (1 : Int32))
          · have h := (if_pos hc).symm.trans h
            obtain ⟨v4, M3, eM3, h⟩ := b2d h
            have hB := dX16_byteAt fu  a1 a2 M1 hB eM3
            by_cases hc : v4 = (13 : Int32)
            · have h := (if_pos hc).symm.trans h
              exact dX16_headBytes_L51 fu (fun b1 b2 b3 b4 M => fX16_headBytes_L10 fu  n b1 b2 b3 b4 M) ih  a1 a3 a4 M3 hB h
            · have h := (if_neg hc).symm.trans h
              exact dX16_headBytes_L55 fu (fun b1 b2 b3 b4 M => fX16_headBytes_L10 fu  n b1 b2 b3 b4 M) ih  a1 a3 a4 M3 hB h
          · have h := (if_neg hc).symm.trans h
            exact dX16_headBytes_L55 fu (fun b1 b2 b3 b4 M => fX16_headBytes_L10 fu  n b1 b2 b3 b4 M) ih  a1 a3 a4 M1 hB h
      · have h := (if_neg hc).symm.trans h
        exact dX16_headBytes_L73 fu (fun b1 b2 b3 b4 M => fX16_headBytes_L10 fu  n b1 b2 b3 b4 M) ih  a1 a2 a3 a4 M1 hB h
theorem dX16_headBytes (fu : Nat) {dn : Nat} {out : Int32 × Mm}   (a0 : Nat) (a1 : Option Nat)  (M : Mm) (hB : DP dn M) (h : fX16_headBytes fu  a0 a1 M = some out) : DP dn out.2 := by
  unfold fX16_headBytes at h
  obtain ⟨q1, eq1, h⟩ := bd h
  obtain ⟨v3, M2, eM2, h⟩ := b2d h
  have hB := dX12_held fu q1  M hB eM2
  exact dX16_headBytes_L10 fu   fu a1 (0 : Int32) v3 (0 : Int32) M2 hB h
theorem dX16_lineEnd_L2 (fu : Nat) {dn : Nat} {out : Int32 × Mm}   : ∀ (n : Nat) (a0 : Nat) (a2 : Int32)  (M : Mm), DP dn M → fX16_lineEnd_L2 fu  n a0 a2 M = some out → DP dn out.2 := by
  intro n
  induction n with
  | zero =>
    intro a0 a2 M hB h
    have h : (none : Option (Int32 × Mm)) = some out := h
    cases h
  | succ n ih =>
    intro a0 a2 M hB h
    rw [fX16_lineEnd_L2] at h
    obtain ⟨v1, ev1, h⟩ := bd h
    obtain ⟨v2, ev2, h⟩ := bd h
    by_cases hc : v2 = (10 : Int32)
    · have h := (if_pos hc).symm.trans h
      obtain rfl := Option.some.inj h
      exact hB
    · have h := (if_neg hc).symm.trans h
      exact ih a0 (a2 + (1 : Int32)) M hB h
theorem dX16_lineEnd (fu : Nat) {dn : Nat} {out : Int32 × Mm}   (a0 : Nat) (a1 : Int32)  (M : Mm) (hB : DP dn M) (h : fX16_lineEnd fu  a0 a1 M = some out) : DP dn out.2 := by
  unfold fX16_lineEnd at h
  exact dX16_lineEnd_L2 fu   fu a0 a1 M hB h
theorem dX16_shown (fu : Nat) {dn : Nat} {out : Int32 × Mm}   (a0 : Nat) (a1 : Int32) (a2 : Int32)  (M : Mm) (hB : DP dn M) (h : fX16_shown fu  a0 a1 a2 M = some out) : DP dn out.2 := by
  unfold fX16_shown at h
  by_cases hc : a2 ≤ a1
  · have h := (if_pos hc).symm.trans h
    obtain rfl := Option.some.inj h
    exact hB
  · have h := (if_neg hc).symm.trans h
    obtain ⟨v1, ev1, h⟩ := bd h
    obtain ⟨v2, ev2, h⟩ := bd h
    by_cases hc : v2 = (13 : Int32)
    · have h := (if_pos hc).symm.trans h
      obtain rfl := Option.some.inj h
      exact hB
    · have h := (if_neg hc).symm.trans h
      obtain rfl := Option.some.inj h
      exact hB
theorem dX16_headAt (fu : Nat) {dn : Nat} {out : Int32 × Mm}   (a0 : Nat) (a1 : Int32)  (M : Mm) (hB : DP dn M) (h : fX16_headAt fu  a0 a1 M = some out) : DP dn out.2 := by
  unfold fX16_headAt at h
  obtain ⟨v1, ev1, h⟩ := bd h
  obtain ⟨v2, ev2, h⟩ := bd h
  obtain rfl := Option.some.inj h
  exact hB
theorem dX16_says_L15 (fu : Nat) {dn : Nat} {out : Int32 × Mm}   : ∀ (n : Nat) (a0 : Nat) (a1 : Int32) (a2 : Int32) (a3 : Option Nat) (a4 : Int32)  (M : Mm), DP dn M → fX16_says_L15 fu  n a0 a1 a2 a3 a4 M = some out → DP dn out.2 := by
  intro n
  induction n with
  | zero =>
    intro a0 a1 a2 a3 a4 M hB h
    have h : (none : Option (Int32 × Mm)) = some out := h
    cases h
  | succ n ih =>
    intro a0 a1 a2 a3 a4 M hB h
    rw [fX16_says_L15] at h
    by_cases hc : a2 ≤ a4
    · have h := (if_pos hc).symm.trans h
      obtain ⟨hz, rfl⟩ := rN_some h
      exact hB
    · have h := (if_neg hc).symm.trans h
      obtain ⟨q1, eq1, h⟩ := bd h
      obtain ⟨v3, M2, eM2, h⟩ := b2d h
      have hB := dX16_headAt fu q1 a4 M hB eM2
      obtain ⟨q4, eq4, h⟩ := bd h
      obtain ⟨v6, M5, eM5, h⟩ := b2d h
      have hB := dJ0_charAt_5068e fu q4 (a4 - a1) M2 hB eM5
      by_cases hc : v3 = v6
      · have h := (if_pos hc).symm.trans h
        exact ih a0 a1 a2 a3 (a4 + (1 : Int32)) M5 hB h
      · have h := (if_neg hc).symm.trans h
        obtain ⟨hz, rfl⟩ := rN_some h
        exact hB
theorem dX16_says (fu : Nat) {dn : Nat} {out : Int32 × Mm}   (a0 : Nat) (a1 : Int32) (a2 : Int32) (a3 : Option Nat)  (M : Mm) (hB : DP dn M) (h : fX16_says fu  a0 a1 a2 a3 M = some out) : DP dn out.2 := by
  unfold fX16_says at h
  obtain ⟨q1, eq1, h⟩ := bd h
  obtain ⟨v3, M2, eM2, h⟩ := b2d h
  have hB := dJ0_length_8abf5 fu q1  M hB eM2
  by_cases hc : (a2 - a1) = v3
  · have h := (if_pos hc).symm.trans h
    exact dX16_says_L15 fu   fu a0 a1 a2 a3 a1 M2 hB h
  · have h := (if_neg hc).symm.trans h
    obtain ⟨hz, rfl⟩ := rN_some h
    exact hB
theorem dX16_requestLine_L283 (fu : Nat) {dn : Nat} {out : Int32 × Mm}   (a0 : Nat) (a3 : Int32) (a4 : Int32) (s0 : Option Nat) (s1 : Int32) (M : Mm) (hB : DP dn M) (h : fX16_requestLine_L283 fu  a0 a3 a4 s0 s1 M = some out) : DP dn out.2 := by
  unfold fX16_requestLine_L283 at h
  obtain ⟨M1, eM1, h⟩ := bd h
  have hB := d_pZ hB eM1 (by decide)
  obtain ⟨M2, eM2, h⟩ := bd h
  have hB := d_pF hB eM2 (by decide)
  obtain ⟨M3, eM3, h⟩ := bd h
  have hB := d_pF hB eM3 (by decide)
  obtain ⟨hz, rfl⟩ := rN_some h
  exact hB
theorem dX16_requestLine_L282 (fu : Nat) {dn : Nat} {out : Int32 × Mm}   (a0 : Nat) (a3 : Int32) (a4 : Int32) (s0 : Option Nat) (M : Mm) (hB : DP dn M) (h : fX16_requestLine_L282 fu  a0 a3 a4 s0 M = some out) : DP dn out.2 := by
  unfold fX16_requestLine_L282 at h
  exact dX16_requestLine_L283 fu    a0 a3 a4 s0 (0 : Int32) M hB h
theorem dX16_requestLine_L242 (fu : Nat) {dn : Nat} {out : Int32 × Mm}   (a0 : Nat) (a1 : Int32) (a3 : Int32) (a4 : Int32) (s0 : Option Nat) (s1 : Int32) (M : Mm) (hB : DP dn M) (h : fX16_requestLine_L242 fu  a0 a1 a3 a4 s0 s1 M = some out) : DP dn out.2 := by
  unfold fX16_requestLine_L242 at h
  obtain ⟨M1, eM1, h⟩ := bd h
  have hB := d_pZ hB eM1 (by decide)
  obtain ⟨q2, eq2, h⟩ := bd h
  obtain ⟨v4, M3, eM3, h⟩ := b2d h
  have hB := dX16_says fu q2 a1 a3 (some 3) M1 hB eM3
  obtain ⟨M5, eM5, h⟩ := bd h
  have hB := d_pZ hB eM5 (by decide)
  obtain ⟨v6, ev6, h⟩ := bd h
  by_cases hc : v6 = 0
  · have h := (if_pos hc).symm.trans h
    obtain ⟨q7, eq7, h⟩ := bd h
    obtain ⟨v9, M8, eM8, h⟩ := b2d h
    have hB := dX16_says fu q7 a1 a3 (some 2) M5 hB eM8
    by_cases hc : v9 = 0
    · have h := (if_pos hc).symm.trans h
      exact dX16_requestLine_L283 fu    a0 a3 a4 (some a0) (1 : Int32) M8 hB h
    · have h := (if_neg hc).symm.trans h
      exact dX16_requestLine_L282 fu    a0 a3 a4 (some a0) M8 hB h
  · have h := (if_neg hc).symm.trans h
    exact dX16_requestLine_L282 fu    a0 a3 a4 (some a0) M5 hB h
theorem dX16_requestLine_L223 (fu : Nat) {dn : Nat} {out : Int32 × Mm}   (a0 : Nat) (a1 : Int32) (a2 : Int32) (a3 : Int32) (a4 : Int32)  (M : Mm) (hB : DP dn M) (h : fX16_requestLine_L223 fu  a0 a1 a2 a3 a4 M = some out) : DP dn out.2 := by
  unfold fX16_requestLine_L223 at h
  obtain ⟨v1, ev1, h⟩ := bd h
  obtain ⟨v2, ev2, h⟩ := bd h
  by_cases hc : v2 = (48 : Int32)
  · have h := (if_pos hc).symm.trans h
    exact dX16_requestLine_L242 fu    a0 a1 a3 a4 (some a0) (1 : Int32) M hB h
  · have h := (if_neg hc).symm.trans h
    exact dX16_requestLine_L242 fu    a0 a1 a3 a4 (some a0) (0 : Int32) M hB h
theorem dX16_requestLine_L154 (fu : Nat) {dn : Nat} {out : Int32 × Mm}   : ∀ (n : Nat) (a0 : Nat) (a1 : Int32) (a2 : Int32) (a3 : Int32) (a4 : Int32) (a6 : Int32)  (M : Mm), DP dn M → fX16_requestLine_L154 fu  n a0 a1 a2 a3 a4 a6 M = some out → DP dn out.2 := by
  intro n
  induction n with
  | zero =>
    intro a0 a1 a2 a3 a4 a6 M hB h
    have h : (none : Option (Int32 × Mm)) = some out := h
    cases h
  | succ n ih =>
    intro a0 a1 a2 a3 a4 a6 M hB h
    rw [fX16_requestLine_L154] at h
    by_cases hc : a4 ≤ a6
    · have h := (if_pos hc).symm.trans h
      obtain ⟨q1, eq1, h⟩ := bd h
      obtain ⟨v3, M2, eM2, h⟩ := b2d h
      have hB := dX16_says fu q1 (a4 + (1 : Int32)) a2 (some 43) M hB eM2
      by_cases hc : v3 = 0
      · have h := (if_pos hc).symm.trans h
        obtain ⟨q4, eq4, h⟩ := bd h
        obtain ⟨v6, M5, eM5, h⟩ := b2d h
        have hB := dX16_says fu q4 (a4 + (1 : Int32)) a2 (some 44) M2 hB eM5
        by_cases hc : v6 = 0
        · have h := (if_pos hc).symm.trans h
          obtain ⟨hz, rfl⟩ := rN_some h
          exact hB
        · have h := (if_neg hc).symm.trans h
          exact dX16_requestLine_L223 fu    a0 a1 a2 a3 a4 M5 hB h
      · have h := (if_neg hc).symm.trans h
        exact dX16_requestLine_L223 fu    a0 a1 a2 a3 a4 M2 hB h
    · have h := (if_neg hc).symm.trans h
      obtain ⟨q7, eq7, h⟩ := bd h
      obtain ⟨v9, M8, eM8, h⟩ := b2d h
      have hB := dX16_headAt fu q7 a6 M hB eM8
      by_cases hc : v9 < (33 : Int32)
      · have h := (if_pos hc).symm.trans h
        obtain ⟨hz, rfl⟩ := rN_some h
        exact hB
      · have h := (if_neg hc).symm.trans h
        obtain ⟨q10, eq10, h⟩ := bd h
        obtain ⟨v12, M11, eM11, h⟩ := b2d h
        have hB := dX16_headAt fu q10 a6 M8 hB eM11
        by_cases hc : v12 ≤ (126 : Int32)
        · have h := (if_pos hc).symm.trans h
          exact ih a0 a1 a2 a3 a4 (a6 + (1 : Int32)) M11 hB h
        · have h := (if_neg hc).symm.trans h
          obtain ⟨hz, rfl⟩ := rN_some h
          exact hB
theorem dX16_requestLine_L113 (fu : Nat) {dn : Nat} {out : Int32 × Mm}   : ∀ (n : Nat) (a0 : Nat) (a1 : Int32) (a2 : Int32) (a3 : Int32) (a4 : Int32) (a6 : Int32)  (M : Mm), DP dn M → fX16_requestLine_L113 fu  n a0 a1 a2 a3 a4 a6 M = some out → DP dn out.2 := by
  intro n
  induction n with
  | zero =>
    intro a0 a1 a2 a3 a4 a6 M hB h
    have h : (none : Option (Int32 × Mm)) = some out := h
    cases h
  | succ n ih =>
    intro a0 a1 a2 a3 a4 a6 M hB h
    rw [fX16_requestLine_L113] at h
    by_cases hc : a3 ≤ a6
    · have h := (if_pos hc).symm.trans h
      exact dX16_requestLine_L154 fu   fu a0 a1 a2 a3 a4 (a3 + (1 : Int32)) M hB h
    · have h := (if_neg hc).symm.trans h
      obtain ⟨q1, eq1, h⟩ := bd h
      obtain ⟨v3, M2, eM2, h⟩ := b2d h
      have hB := dX16_headAt fu q1 a6 M hB eM2
      by_cases hc : v3 < (65 : Int32)
      · have h := (if_pos hc).symm.trans h
        obtain ⟨hz, rfl⟩ := rN_some h
        exact hB
      · have h := (if_neg hc).symm.trans h
        obtain ⟨q4, eq4, h⟩ := bd h
        obtain ⟨v6, M5, eM5, h⟩ := b2d h
        have hB := dX16_headAt fu q4 a6 M2 hB eM5
        by_cases hc : v6 ≤ (90 : Int32)
        · have h := (if_pos hc).symm.trans h
          exact ih a0 a1 a2 a3 a4 (a6 + (1 : Int32)) M5 hB h
        · have h := (if_neg hc).symm.trans h
          obtain ⟨hz, rfl⟩ := rN_some h
          exact hB
theorem dX16_requestLine_L51 (fu : Nat) {dn : Nat} {out : Int32 × Mm} (k11 : Nat → Int32 → Int32 → Int32 → Int32 → Int32 → Int32 → Mm → Option (Int32 × Mm)) (hk11 : ∀ (b0 : Nat) (b1 : Int32) (b2 : Int32) (b3 : Int32) (b4 : Int32) (b5 : Int32) (b6 : Int32)  (M : Mm), DP dn M → k11 b0 b1 b2 b3 b4 b5 b6 M = some out → DP dn out.2) (a0 : Nat) (a1 : Int32) (a2 : Int32) (a3 : Int32) (a4 : Int32) (a5 : Int32) (a6 : Int32)  (M : Mm) (hB : DP dn M) (h : fX16_requestLine_L51 fu k11 a0 a1 a2 a3 a4 a5 a6 M = some out) : DP dn out.2 := by
  unfold fX16_requestLine_L51 at h
  exact hk11 a0 a1 a2 a3 a4 a5 (a6 + (1 : Int32)) M hB h
theorem dX16_requestLine_L41 (fu : Nat) {dn : Nat} {out : Int32 × Mm} (k11 : Nat → Int32 → Int32 → Int32 → Int32 → Int32 → Int32 → Mm → Option (Int32 × Mm)) (hk11 : ∀ (b0 : Nat) (b1 : Int32) (b2 : Int32) (b3 : Int32) (b4 : Int32) (b5 : Int32) (b6 : Int32)  (M : Mm), DP dn M → k11 b0 b1 b2 b3 b4 b5 b6 M = some out → DP dn out.2) (a0 : Nat) (a1 : Int32) (a2 : Int32) (a3 : Int32) (a4 : Int32) (a5 : Int32) (a6 : Int32)  (M : Mm) (hB : DP dn M) (h : fX16_requestLine_L41 fu k11 a0 a1 a2 a3 a4 a5 a6 M = some out) : DP dn out.2 := by
  unfold fX16_requestLine_L41 at h
  by_cases hc : a5 = (2 : Int32)
  · have h := (if_pos hc).symm.trans h
    exact dX16_requestLine_L51 fu k11 hk11  a0 a1 a2 a3 a6 a5 a6 M hB h
  · have h := (if_neg hc).symm.trans h
    exact dX16_requestLine_L51 fu k11 hk11  a0 a1 a2 a3 a4 a5 a6 M hB h
theorem dX16_requestLine_L11 (fu : Nat) {dn : Nat} {out : Int32 × Mm}   : ∀ (n : Nat) (a0 : Nat) (a1 : Int32) (a2 : Int32) (a3 : Int32) (a4 : Int32) (a5 : Int32) (a6 : Int32)  (M : Mm), DP dn M → fX16_requestLine_L11 fu  n a0 a1 a2 a3 a4 a5 a6 M = some out → DP dn out.2 := by
  intro n
  induction n with
  | zero =>
    intro a0 a1 a2 a3 a4 a5 a6 M hB h
    have h : (none : Option (Int32 × Mm)) = some out := h
    cases h
  | succ n ih =>
    intro a0 a1 a2 a3 a4 a5 a6 M hB h
    rw [fX16_requestLine_L11] at h
    by_cases hc : a2 ≤ a6
    · have h := (if_pos hc).symm.trans h
      by_cases hc : a5 = (2 : Int32)
      · have h := (if_pos hc).symm.trans h
        by_cases hc : (a3 - a1) < (1 : Int32)
        · have h := (if_pos hc).symm.trans h
          obtain ⟨hz, rfl⟩ := rN_some h
          exact hB
        · have h := (if_neg hc).symm.trans h
          by_cases hc : (16 : Int32) < (a3 - a1)
          · have h := (if_pos hc).symm.trans h
            obtain ⟨hz, rfl⟩ := rN_some h
            exact hB
          · have h := (if_neg hc).symm.trans h
            by_cases hc : a4 = (a3 + (1 : Int32))
            · have h := (if_pos hc).symm.trans h
              obtain ⟨hz, rfl⟩ := rN_some h
              exact hB
            · have h := (if_neg hc).symm.trans h
              obtain ⟨v1, ev1, h⟩ := bd h
              obtain ⟨v2, ev2, h⟩ := bd h
              by_cases hc : v2 = (47 : Int32)
              · have h := (if_pos hc).symm.trans h
                by_cases hc : (a2 - a4) = (9 : Int32)
                · have h := (if_pos hc).symm.trans h
                  exact dX16_requestLine_L113 fu   fu a0 a1 a2 a3 a4 a1 M hB h
                · have h := (if_neg hc).symm.trans h
                  obtain ⟨hz, rfl⟩ := rN_some h
                  exact hB
              · have h := (if_neg hc).symm.trans h
                obtain ⟨hz, rfl⟩ := rN_some h
                exact hB
      · have h := (if_neg hc).symm.trans h
        obtain ⟨hz, rfl⟩ := rN_some h
        exact hB
    · have h := (if_neg hc).symm.trans h
      obtain ⟨v3, ev3, h⟩ := bd h
      obtain ⟨v4, ev4, h⟩ := bd h
      by_cases hc : v4 = (32 : Int32)
      · have h := (if_pos hc).symm.trans h
        by_cases hc : (a5 + (1 : Int32)) = (1 : Int32)
        · have h := (if_pos hc).symm.trans h
          exact dX16_requestLine_L41 fu (fun b0 b1 b2 b3 b4 b5 b6 M => fX16_requestLine_L11 fu  n b0 b1 b2 b3 b4 b5 b6 M) ih  a0 a1 a2 a6 a4 (a5 + (1 : Int32)) a6 M hB h
        · have h := (if_neg hc).symm.trans h
          exact dX16_requestLine_L41 fu (fun b0 b1 b2 b3 b4 b5 b6 M => fX16_requestLine_L11 fu  n b0 b1 b2 b3 b4 b5 b6 M) ih  a0 a1 a2 a3 a4 (a5 + (1 : Int32)) a6 M hB h
      · have h := (if_neg hc).symm.trans h
        exact dX16_requestLine_L51 fu (fun b0 b1 b2 b3 b4 b5 b6 M => fX16_requestLine_L11 fu  n b0 b1 b2 b3 b4 b5 b6 M) ih  a0 a1 a2 a3 a4 a5 a6 M hB h
theorem dX16_requestLine (fu : Nat) {dn : Nat} {out : Int32 × Mm}   (a0 : Nat) (a1 : Int32) (a2 : Int32)  (M : Mm) (hB : DP dn M) (h : fX16_requestLine fu  a0 a1 a2 M = some out) : DP dn out.2 := by
  unfold fX16_requestLine at h
  exact dX16_requestLine_L11 fu   fu a0 a1 a2 (-1 : Int32) (-1 : Int32) (0 : Int32) a1 M hB h
theorem dX16_small (fu : Nat) {dn : Nat} {out : Int32 × Mm}   (a0 : Int32)  (M : Mm) (hB : DP dn M) (h : fX16_small fu  a0 M = some out) : DP dn out.2 := by
  unfold fX16_small at h
  by_cases hc : a0 < (65 : Int32)
  · have h := (if_pos hc).symm.trans h
    obtain rfl := Option.some.inj h
    exact hB
  · have h := (if_neg hc).symm.trans h
    by_cases hc : (90 : Int32) < a0
    · have h := (if_pos hc).symm.trans h
      obtain rfl := Option.some.inj h
      exact hB
    · have h := (if_neg hc).symm.trans h
      obtain rfl := Option.some.inj h
      exact hB
theorem dX16_isDigit (fu : Nat) {dn : Nat} {out : Int32 × Mm}   (a0 : Int32)  (M : Mm) (hB : DP dn M) (h : fX16_isDigit fu  a0 M = some out) : DP dn out.2 := by
  unfold fX16_isDigit at h
  by_cases hc : a0 < (48 : Int32)
  · have h := (if_pos hc).symm.trans h
    obtain ⟨hz, rfl⟩ := rN_some h
    exact hB
  · have h := (if_neg hc).symm.trans h
    by_cases hc : (57 : Int32) < a0
    · have h := (if_pos hc).symm.trans h
      obtain ⟨hz, rfl⟩ := rN_some h
      exact hB
    · have h := (if_neg hc).symm.trans h
      obtain ⟨hz, rfl⟩ := rN_some h
      exact hB
theorem dX16_isNameCode_L113 (fu : Nat) {dn : Nat} {out : Int32 × Mm}   (a0 : Int32) (a2 : Int32)  (M : Mm) (hB : DP dn M) (h : fX16_isNameCode_L113 fu  a0 a2 M = some out) : DP dn out.2 := by
  unfold fX16_isNameCode_L113 at h
  obtain ⟨v2, M1, eM1, h⟩ := b2d h
  have hB := dX16_isDigit fu  a0 M hB eM1
  by_cases hc : v2 = 0
  · have h := (if_pos hc).symm.trans h
    by_cases hc : a2 = 0
    · have h := (if_pos hc).symm.trans h
      obtain ⟨hz, rfl⟩ := rN_some h
      exact hB
    · have h := (if_neg hc).symm.trans h
      obtain ⟨hz, rfl⟩ := rN_some h
      exact hB
  · have h := (if_neg hc).symm.trans h
    obtain ⟨hz, rfl⟩ := rN_some h
    exact hB
theorem dX16_isNameCode_L100 (fu : Nat) {dn : Nat} {out : Int32 × Mm}   (a0 : Int32) (a1 : Int32) (s0 : Int32) (M : Mm) (hB : DP dn M) (h : fX16_isNameCode_L100 fu  a0 a1 s0 M = some out) : DP dn out.2 := by
  unfold fX16_isNameCode_L100 at h
  by_cases hc : a1 < (97 : Int32)
  · have h := (if_pos hc).symm.trans h
    exact dX16_isNameCode_L113 fu    a0 s0 M hB h
  · have h := (if_neg hc).symm.trans h
    by_cases hc : a1 ≤ (122 : Int32)
    · have h := (if_pos hc).symm.trans h
      obtain ⟨hz, rfl⟩ := rN_some h
      exact hB
    · have h := (if_neg hc).symm.trans h
      exact dX16_isNameCode_L113 fu    a0 s0 M hB h
theorem dX16_isNameCode_L95 (fu : Nat) {dn : Nat} {out : Int32 × Mm}   (a0 : Int32) (a1 : Int32)  (M : Mm) (hB : DP dn M) (h : fX16_isNameCode_L95 fu  a0 a1 M = some out) : DP dn out.2 := by
  unfold fX16_isNameCode_L95 at h
  exact dX16_isNameCode_L100 fu    a0 a1 (1 : Int32) M hB h
theorem dX16_isNameCode (fu : Nat) {dn : Nat} {out : Int32 × Mm}   (a0 : Int32)  (M : Mm) (hB : DP dn M) (h : fX16_isNameCode fu  a0 M = some out) : DP dn out.2 := by
  unfold fX16_isNameCode at h
  obtain ⟨v2, M1, eM1, h⟩ := b2d h
  have hB := dX16_small fu  a0 M hB eM1
  by_cases hc : a0 = (45 : Int32)
  · have h := (if_pos hc).symm.trans h
    exact dX16_isNameCode_L95 fu    a0 v2 M1 hB h
  · have h := (if_neg hc).symm.trans h
    by_cases hc : a0 = (95 : Int32)
    · have h := (if_pos hc).symm.trans h
      exact dX16_isNameCode_L95 fu    a0 v2 M1 hB h
    · have h := (if_neg hc).symm.trans h
      by_cases hc : a0 = (46 : Int32)
      · have h := (if_pos hc).symm.trans h
        exact dX16_isNameCode_L95 fu    a0 v2 M1 hB h
      · have h := (if_neg hc).symm.trans h
        by_cases hc : a0 = (33 : Int32)
        · have h := (if_pos hc).symm.trans h
          exact dX16_isNameCode_L95 fu    a0 v2 M1 hB h
        · have h := (if_neg hc).symm.trans h
          by_cases hc : a0 = (35 : Int32)
          · have h := (if_pos hc).symm.trans h
            exact dX16_isNameCode_L95 fu    a0 v2 M1 hB h
          · have h := (if_neg hc).symm.trans h
            by_cases hc : a0 = (36 : Int32)
            · have h := (if_pos hc).symm.trans h
              exact dX16_isNameCode_L95 fu    a0 v2 M1 hB h
            · have h := (if_neg hc).symm.trans h
              by_cases hc : a0 = (37 : Int32)
              · have h := (if_pos hc).symm.trans h
                exact dX16_isNameCode_L95 fu    a0 v2 M1 hB h
              · have h := (if_neg hc).symm.trans h
                by_cases hc : a0 = (38 : Int32)
                · have h := (if_pos hc).symm.trans h
                  exact dX16_isNameCode_L95 fu    a0 v2 M1 hB h
                · have h := (if_neg hc).symm.trans h
                  by_cases hc : a0 = (39 : Int32)
                  · have h := (if_pos hc).symm.trans h
                    exact dX16_isNameCode_L95 fu    a0 v2 M1 hB h
                  · have h := (if_neg hc).symm.trans h
                    by_cases hc : a0 = (42 : Int32)
                    · have h := (if_pos hc).symm.trans h
                      exact dX16_isNameCode_L95 fu    a0 v2 M1 hB h
                    · have h := (if_neg hc).symm.trans h
                      by_cases hc : a0 = (43 : Int32)
                      · have h := (if_pos hc).symm.trans h
                        exact dX16_isNameCode_L95 fu    a0 v2 M1 hB h
                      · have h := (if_neg hc).symm.trans h
                        by_cases hc : a0 = (94 : Int32)
                        · have h := (if_pos hc).symm.trans h
                          exact dX16_isNameCode_L95 fu    a0 v2 M1 hB h
                        · have h := (if_neg hc).symm.trans h
                          by_cases hc : a0 = (96 : Int32)
                          · have h := (if_pos hc).symm.trans h
                            exact dX16_isNameCode_L95 fu    a0 v2 M1 hB h
                          · have h := (if_neg hc).symm.trans h
                            by_cases hc : a0 = (124 : Int32)
                            · have h := (if_pos hc).symm.trans h
                              exact dX16_isNameCode_L95 fu    a0 v2 M1 hB h
                            · have h := (if_neg hc).symm.trans h
                              by_cases hc : a0 = (126 : Int32)
                              · have h := (if_pos hc).symm.trans h
                                exact dX16_isNameCode_L95 fu    a0 v2 M1 hB h
                              · have h := (if_neg hc).symm.trans h
                                exact dX16_isNameCode_L100 fu    a0 v2 (0 : Int32) M1 hB h
theorem dX16_isBlank (fu : Nat) {dn : Nat} {out : Int32 × Mm}   (a0 : Int32)  (M : Mm) (hB : DP dn M) (h : fX16_isBlank fu  a0 M = some out) : DP dn out.2 := by
  unfold fX16_isBlank at h
  by_cases hc : a0 = (32 : Int32)
  · have h := (if_pos hc).symm.trans h
    obtain ⟨hz, rfl⟩ := rN_some h
    exact hB
  · have h := (if_neg hc).symm.trans h
    by_cases hc : a0 = (9 : Int32)
    · have h := (if_pos hc).symm.trans h
      obtain ⟨hz, rfl⟩ := rN_some h
      exact hB
    · have h := (if_neg hc).symm.trans h
      obtain ⟨hz, rfl⟩ := rN_some h
      exact hB
theorem dX16_saysSmall_L15 (fu : Nat) {dn : Nat} {out : Int32 × Mm}   : ∀ (n : Nat) (a0 : Nat) (a1 : Int32) (a2 : Int32) (a3 : Option Nat) (a4 : Int32)  (M : Mm), DP dn M → fX16_saysSmall_L15 fu  n a0 a1 a2 a3 a4 M = some out → DP dn out.2 := by
  intro n
  induction n with
  | zero =>
    intro a0 a1 a2 a3 a4 M hB h
    have h : (none : Option (Int32 × Mm)) = some out := h
    cases h
  | succ n ih =>
    intro a0 a1 a2 a3 a4 M hB h
    rw [fX16_saysSmall_L15] at h
    by_cases hc : a2 ≤ a4
    · have h := (if_pos hc).symm.trans h
      obtain ⟨hz, rfl⟩ := rN_some h
      exact hB
    · have h := (if_neg hc).symm.trans h
      obtain ⟨q1, eq1, h⟩ := bd h
      obtain ⟨v3, M2, eM2, h⟩ := b2d h
      have hB := dX16_headAt fu q1 a4 M hB eM2
      obtain ⟨v5, M4, eM4, h⟩ := b2d h
      have hB := dX16_small fu  v3 M2 hB eM4
      obtain ⟨q6, eq6, h⟩ := bd h
      obtain ⟨v8, M7, eM7, h⟩ := b2d h
      have hB := dJ0_charAt_5068e fu q6 (a4 - a1) M4 hB eM7
      by_cases hc : v5 = v8
      · have h := (if_pos hc).symm.trans h
        exact ih a0 a1 a2 a3 (a4 + (1 : Int32)) M7 hB h
      · have h := (if_neg hc).symm.trans h
        obtain ⟨hz, rfl⟩ := rN_some h
        exact hB
theorem dX16_saysSmall (fu : Nat) {dn : Nat} {out : Int32 × Mm}   (a0 : Nat) (a1 : Int32) (a2 : Int32) (a3 : Option Nat)  (M : Mm) (hB : DP dn M) (h : fX16_saysSmall fu  a0 a1 a2 a3 M = some out) : DP dn out.2 := by
  unfold fX16_saysSmall at h
  obtain ⟨q1, eq1, h⟩ := bd h
  obtain ⟨v3, M2, eM2, h⟩ := b2d h
  have hB := dJ0_length_8abf5 fu q1  M hB eM2
  by_cases hc : (a2 - a1) = v3
  · have h := (if_pos hc).symm.trans h
    exact dX16_saysSmall_L15 fu   fu a0 a1 a2 a3 a1 M2 hB h
  · have h := (if_neg hc).symm.trans h
    obtain ⟨hz, rfl⟩ := rN_some h
    exact hB
theorem dX16_contentLength_L80 (fu : Nat) {dn : Nat} {out : Mm}   (a0 : Nat) (a3 : Int32) (a4 : Int32)  (M : Mm) (hB : DP dn M) (h : fX16_contentLength_L80 fu  a0 a3 a4 M = some out) : DP dn out := by
  unfold fX16_contentLength_L80 at h
  by_cases hc : a4 = 0
  · have h := (if_pos hc).symm.trans h
    obtain ⟨M3, eM3, h⟩ := bd h
    have hB := d_pZ hB eM3 (by decide)
    obtain rfl := Option.some.inj h
    exact hB
  · have h := (if_neg hc).symm.trans h
    by_cases hc : a3 ≤ (65536 : Int32)
    · have h := (if_pos hc).symm.trans h
      obtain ⟨M1, eM1, h⟩ := bd h
      have hB := d_pF hB eM1 (by decide)
      obtain rfl := Option.some.inj h
      exact hB
    · have h := (if_neg hc).symm.trans h
      obtain ⟨M2, eM2, h⟩ := bd h
      have hB := d_pZ hB eM2 (by decide)
      obtain rfl := Option.some.inj h
      exact hB
theorem dX16_contentLength_L37 (fu : Nat) {dn : Nat} {out : Mm}   : ∀ (n : Nat) (a0 : Nat) (a2 : Int32) (a3 : Int32) (a4 : Int32) (a5 : Int32)  (M : Mm), DP dn M → fX16_contentLength_L37 fu  n a0 a2 a3 a4 a5 M = some out → DP dn out := by
  intro n
  induction n with
  | zero =>
    intro a0 a2 a3 a4 a5 M hB h
    have h : (none : Option (Mm)) = some out := h
    cases h
  | succ n ih =>
    intro a0 a2 a3 a4 a5 M hB h
    rw [fX16_contentLength_L37] at h
    by_cases hc : a2 ≤ a5
    · have h := (if_pos hc).symm.trans h
      exact dX16_contentLength_L80 fu    a0 a3 a4 M hB h
    · have h := (if_neg hc).symm.trans h
      by_cases hc : a4 = 0
      · have h := (if_pos hc).symm.trans h
        exact dX16_contentLength_L80 fu    a0 a3 a4 M hB h
      · have h := (if_neg hc).symm.trans h
        obtain ⟨q1, eq1, h⟩ := bd h
        obtain ⟨v3, M2, eM2, h⟩ := b2d h
        have hB := dX16_headAt fu q1 a5 M hB eM2
        obtain ⟨v5, M4, eM4, h⟩ := b2d h
        have hB := dX16_isDigit fu  v3 M2 hB eM4
        obtain ⟨q6, eq6, h⟩ := bd h
        obtain ⟨v8, M7, eM7, h⟩ := b2d h
        have hB := dX16_headAt fu q6 a5 M4 hB eM7
        obtain ⟨v9, ev9, h⟩ := bd h
        exact ih a0 a2 v9 v5 (a5 + (1 : Int32)) M7 hB h
theorem dX16_contentLength_L32 (fu : Nat) {dn : Nat} {out : Mm}   (a0 : Nat) (a1 : Int32) (a2 : Int32) (a3 : Int32) (s0 : Int32) (M : Mm) (hB : DP dn M) (h : fX16_contentLength_L32 fu  a0 a1 a2 a3 s0 M = some out) : DP dn out := by
  unfold fX16_contentLength_L32 at h
  exact dX16_contentLength_L37 fu   fu a0 a2 a3 s0 a1 M hB h
theorem dX16_contentLength_L31 (fu : Nat) {dn : Nat} {out : Mm}   (a0 : Nat) (a1 : Int32) (a2 : Int32) (a3 : Int32)  (M : Mm) (hB : DP dn M) (h : fX16_contentLength_L31 fu  a0 a1 a2 a3 M = some out) : DP dn out := by
  unfold fX16_contentLength_L31 at h
  exact dX16_contentLength_L32 fu    a0 a1 a2 a3 (0 : Int32) M hB h
theorem dX16_contentLength (fu : Nat) {dn : Nat} {out : Mm}   (a0 : Nat) (a1 : Int32) (a2 : Int32)  (M : Mm) (hB : DP dn M) (h : fX16_contentLength fu  a0 a1 a2 M = some out) : DP dn out := by
  unfold fX16_contentLength at h
  obtain ⟨v1, ev1, h⟩ := bd h
  obtain ⟨M2, eM2, h⟩ := bd h
  have hB := d_pF hB eM2 (by decide)
  by_cases hc : (a2 - a1) < (1 : Int32)
  · have h := (if_pos hc).symm.trans h
    exact dX16_contentLength_L31 fu    a0 a1 a2 (0 : Int32) M2 hB h
  · have h := (if_neg hc).symm.trans h
    by_cases hc : (9 : Int32) < (a2 - a1)
    · have h := (if_pos hc).symm.trans h
      exact dX16_contentLength_L31 fu    a0 a1 a2 (0 : Int32) M2 hB h
    · have h := (if_neg hc).symm.trans h
      exact dX16_contentLength_L32 fu    a0 a1 a2 (0 : Int32) (1 : Int32) M2 hB h
theorem dX16_words_L81 (fu : Nat) {dn : Nat} {out : Mm} (k5 : Nat → Int32 → Int32 → Int32 → Mm → Option (Mm)) (hk5 : ∀ (b0 : Nat) (b2 : Int32) (b3 : Int32) (b4 : Int32)  (M : Mm), DP dn M → k5 b0 b2 b3 b4 M = some out → DP dn out) (a0 : Nat) (a2 : Int32) (a3 : Int32) (a4 : Int32)  (M : Mm) (hB : DP dn M) (h : fX16_words_L81 fu k5 a0 a2 a3 a4 M = some out) : DP dn out := by
  unfold fX16_words_L81 at h
  exact hk5 a0 a2 a3 (a4 + (1 : Int32)) M hB h
theorem dX16_words_L76 (fu : Nat) {dn : Nat} {out : Mm} (k5 : Nat → Int32 → Int32 → Int32 → Mm → Option (Mm)) (hk5 : ∀ (b0 : Nat) (b2 : Int32) (b3 : Int32) (b4 : Int32)  (M : Mm), DP dn M → k5 b0 b2 b3 b4 M = some out → DP dn out) (a0 : Nat) (a2 : Int32) (a4 : Int32)  (M : Mm) (hB : DP dn M) (h : fX16_words_L76 fu k5 a0 a2 a4 M = some out) : DP dn out := by
  unfold fX16_words_L76 at h
  exact dX16_words_L81 fu k5 hk5  a0 a2 (a4 + (1 : Int32)) a4 M hB h
theorem dX16_words_L58 (fu : Nat) {dn : Nat} {out : Mm} (k5 : Nat → Int32 → Int32 → Int32 → Mm → Option (Mm)) (hk5 : ∀ (b0 : Nat) (b2 : Int32) (b3 : Int32) (b4 : Int32)  (M : Mm), DP dn M → k5 b0 b2 b3 b4 M = some out → DP dn out) (a0 : Nat) (a2 : Int32) (a3 : Int32) (a4 : Int32)  (M : Mm) (hB : DP dn M) (h : fX16_words_L58 fu k5 a0 a2 a3 a4 M = some out) : DP dn out := by
  unfold fX16_words_L58 at h
  obtain ⟨q1, eq1, h⟩ := bd h
  obtain ⟨v3, M2, eM2, h⟩ := b2d h
  have hB := dX16_saysSmall fu q1 a3 a4 (some 11) M hB eM2
  by_cases hc : v3 = 0
  · have h := (if_pos hc).symm.trans h
    exact dX16_words_L76 fu k5 hk5  a0 a2 a4 M2 hB h
  · have h := (if_neg hc).symm.trans h
    obtain ⟨M4, eM4, h⟩ := bd h
    have hB := d_pZ hB eM4 (by decide)
    exact dX16_words_L76 fu k5 hk5  a0 a2 a4 M4 hB h
theorem dX16_words_L40 (fu : Nat) {dn : Nat} {out : Mm} (k5 : Nat → Int32 → Int32 → Int32 → Mm → Option (Mm)) (hk5 : ∀ (b0 : Nat) (b2 : Int32) (b3 : Int32) (b4 : Int32)  (M : Mm), DP dn M → k5 b0 b2 b3 b4 M = some out → DP dn out) (a0 : Nat) (a2 : Int32) (a3 : Int32) (a4 : Int32)  (M : Mm) (hB : DP dn M) (h : fX16_words_L40 fu k5 a0 a2 a3 a4 M = some out) : DP dn out := by
  unfold fX16_words_L40 at h
  obtain ⟨q1, eq1, h⟩ := bd h
  obtain ⟨v3, M2, eM2, h⟩ := b2d h
  have hB := dX16_saysSmall fu q1 a3 a4 (some 10) M hB eM2
  by_cases hc : v3 = 0
  · have h := (if_pos hc).symm.trans h
    exact dX16_words_L58 fu k5 hk5  a0 a2 a3 a4 M2 hB h
  · have h := (if_neg hc).symm.trans h
    obtain ⟨M4, eM4, h⟩ := bd h
    have hB := d_pZ hB eM4 (by decide)
    exact dX16_words_L58 fu k5 hk5  a0 a2 a3 a4 M4 hB h
theorem dX16_words_L5 (fu : Nat) {dn : Nat} {out : Mm}   : ∀ (n : Nat) (a0 : Nat) (a2 : Int32) (a3 : Int32) (a4 : Int32)  (M : Mm), DP dn M → fX16_words_L5 fu  n a0 a2 a3 a4 M = some out → DP dn out := by
  intro n
  induction n with
  | zero =>
    intro a0 a2 a3 a4 M hB h
    have h : (none : Option (Mm)) = some out := h
    cases h
  | succ n ih =>
    intro a0 a2 a3 a4 M hB h
    rw [fX16_words_L5] at h
    by_cases hc : a2 < a4
    · have h := (if_pos hc).symm.trans h
      obtain rfl := Option.some.inj h
      exact hB
    · have h := (if_neg hc).symm.trans h
      by_cases hc : a4 = a2
      · have h := (if_pos hc).symm.trans h
        exact dX16_words_L40 fu (fun b0 b2 b3 b4 M => fX16_words_L5 fu  n b0 b2 b3 b4 M) ih  a0 a2 a3 a4 M hB h
      · have h := (if_neg hc).symm.trans h
        obtain ⟨q1, eq1, h⟩ := bd h
        obtain ⟨v3, M2, eM2, h⟩ := b2d h
        have hB := dX16_headAt fu q1 a4 M hB eM2
        by_cases hc : v3 = (44 : Int32)
        · have h := (if_pos hc).symm.trans h
          exact dX16_words_L40 fu (fun b0 b2 b3 b4 M => fX16_words_L5 fu  n b0 b2 b3 b4 M) ih  a0 a2 a3 a4 M2 hB h
        · have h := (if_neg hc).symm.trans h
          obtain ⟨q4, eq4, h⟩ := bd h
          obtain ⟨v6, M5, eM5, h⟩ := b2d h
          have hB := dX16_headAt fu q4 a4 M2 hB eM5
          obtain ⟨v8, M7, eM7, h⟩ := b2d h
          have hB := dX16_isBlank fu  v6 M5 hB eM7
          by_cases hc : v8 = 0
          · have h := (if_pos hc).symm.trans h
            exact dX16_words_L81 fu (fun b0 b2 b3 b4 M => fX16_words_L5 fu  n b0 b2 b3 b4 M) ih  a0 a2 a3 a4 M7 hB h
          · have h := (if_neg hc).symm.trans h
            exact dX16_words_L40 fu (fun b0 b2 b3 b4 M => fX16_words_L5 fu  n b0 b2 b3 b4 M) ih  a0 a2 a3 a4 M7 hB h
theorem dX16_words (fu : Nat) {dn : Nat} {out : Mm}   (a0 : Nat) (a1 : Int32) (a2 : Int32)  (M : Mm) (hB : DP dn M) (h : fX16_words fu  a0 a1 a2 M = some out) : DP dn out := by
  unfold fX16_words at h
  exact dX16_words_L5 fu   fu a0 a2 a1 a1 M hB h
theorem dX16_field_L234 (fu : Nat) {dn : Nat} {out : Int32 × Mm}   (a0 : Nat) (a1 : Int32) (a3 : Int32) (a4 : Int32) (a5 : Int32)  (M : Mm) (hB : DP dn M) (h : fX16_field_L234 fu  a0 a1 a3 a4 a5 M = some out) : DP dn out.2 := by
  unfold fX16_field_L234 at h
  obtain ⟨q1, eq1, h⟩ := bd h
  obtain ⟨v3, M2, eM2, h⟩ := b2d h
  have hB := dX16_saysSmall fu q1 a1 a3 (some 8) M hB eM2
  by_cases hc : v3 = 0
  · have h := (if_pos hc).symm.trans h
    obtain ⟨hz, rfl⟩ := rN_some h
    exact hB
  · have h := (if_neg hc).symm.trans h
    obtain ⟨v4, ev4, h⟩ := bd h
    obtain ⟨M5, eM5, h⟩ := bd h
    have hB := d_pF hB eM5 (by decide)
    obtain ⟨M6, eM6, h⟩ := bd h
    have hB := d_pF hB eM6 (by decide)
    obtain ⟨M7, eM7, h⟩ := bd h
    have hB := d_pF hB eM7 (by decide)
    obtain ⟨hz, rfl⟩ := rN_some h
    exact hB
theorem dX16_field_L214 (fu : Nat) {dn : Nat} {out : Int32 × Mm}   (a0 : Nat) (a1 : Int32) (a3 : Int32) (a4 : Int32) (a5 : Int32)  (M : Mm) (hB : DP dn M) (h : fX16_field_L214 fu  a0 a1 a3 a4 a5 M = some out) : DP dn out.2 := by
  unfold fX16_field_L214 at h
  obtain ⟨q1, eq1, h⟩ := bd h
  obtain ⟨v3, M2, eM2, h⟩ := b2d h
  have hB := dX16_saysSmall fu q1 a1 a3 (some 9) M hB eM2
  by_cases hc : v3 = 0
  · have h := (if_pos hc).symm.trans h
    exact dX16_field_L234 fu    a0 a1 a3 a4 a5 M2 hB h
  · have h := (if_neg hc).symm.trans h
    obtain ⟨q4, eq4, h⟩ := bd h
    obtain ⟨M5, eM5, h⟩ := bd h
    have hB := dX16_words fu q4 a4 a5 M2 hB eM5
    exact dX16_field_L234 fu    a0 a1 a3 a4 a5 M5 hB h
theorem dX16_field_L194 (fu : Nat) {dn : Nat} {out : Int32 × Mm}   (a0 : Nat) (a1 : Int32) (a3 : Int32) (a4 : Int32) (a5 : Int32)  (M : Mm) (hB : DP dn M) (h : fX16_field_L194 fu  a0 a1 a3 a4 a5 M = some out) : DP dn out.2 := by
  unfold fX16_field_L194 at h
  obtain ⟨q1, eq1, h⟩ := bd h
  obtain ⟨v3, M2, eM2, h⟩ := b2d h
  have hB := dX16_saysSmall fu q1 a1 a3 (some 7) M hB eM2
  by_cases hc : v3 = 0
  · have h := (if_pos hc).symm.trans h
    exact dX16_field_L214 fu    a0 a1 a3 a4 a5 M2 hB h
  · have h := (if_neg hc).symm.trans h
    obtain ⟨q4, eq4, h⟩ := bd h
    obtain ⟨M5, eM5, h⟩ := bd h
    have hB := dX16_contentLength fu q4 a4 a5 M2 hB eM5
    exact dX16_field_L214 fu    a0 a1 a3 a4 a5 M5 hB h
theorem dX16_field_L177 (fu : Nat) {dn : Nat} {out : Int32 × Mm}   (a0 : Nat) (a1 : Int32) (a3 : Int32) (a4 : Int32) (a5 : Int32)  (M : Mm) (hB : DP dn M) (h : fX16_field_L177 fu  a0 a1 a3 a4 a5 M = some out) : DP dn out.2 := by
  unfold fX16_field_L177 at h
  obtain ⟨q1, eq1, h⟩ := bd h
  obtain ⟨v3, M2, eM2, h⟩ := b2d h
  have hB := dX16_saysSmall fu q1 a1 a3 (some 6) M hB eM2
  by_cases hc : v3 = 0
  · have h := (if_pos hc).symm.trans h
    exact dX16_field_L194 fu    a0 a1 a3 a4 a5 M2 hB h
  · have h := (if_neg hc).symm.trans h
    obtain ⟨M4, eM4, h⟩ := bd h
    have hB := d_pZ hB eM4 (by decide)
    exact dX16_field_L194 fu    a0 a1 a3 a4 a5 M4 hB h
theorem dX16_field_L155 (fu : Nat) {dn : Nat} {out : Int32 × Mm}   (a0 : Nat) (a1 : Int32) (a3 : Int32) (a4 : Int32) (a5 : Int32)  (M : Mm) (hB : DP dn M) (h : fX16_field_L155 fu  a0 a1 a3 a4 a5 M = some out) : DP dn out.2 := by
  unfold fX16_field_L155 at h
  obtain ⟨q1, eq1, h⟩ := bd h
  obtain ⟨v3, M2, eM2, h⟩ := b2d h
  have hB := dX16_saysSmall fu q1 a1 a3 (some 5) M hB eM2
  by_cases hc : v3 = 0
  · have h := (if_pos hc).symm.trans h
    exact dX16_field_L177 fu    a0 a1 a3 a4 a5 M2 hB h
  · have h := (if_neg hc).symm.trans h
    obtain ⟨v4, ev4, h⟩ := bd h
    obtain ⟨M5, eM5, h⟩ := bd h
    have hB := d_pF hB eM5 (by decide)
    exact dX16_field_L177 fu    a0 a1 a3 a4 a5 M5 hB h
theorem dX16_field_L128 (fu : Nat) {dn : Nat} {out : Int32 × Mm}   : ∀ (n : Nat) (a0 : Nat) (a1 : Int32) (a3 : Int32) (a4 : Int32) (a5 : Int32)  (M : Mm), DP dn M → fX16_field_L128 fu  n a0 a1 a3 a4 a5 M = some out → DP dn out.2 := by
  intro n
  induction n with
  | zero =>
    intro a0 a1 a3 a4 a5 M hB h
    have h : (none : Option (Int32 × Mm)) = some out := h
    cases h
  | succ n ih =>
    intro a0 a1 a3 a4 a5 M hB h
    rw [fX16_field_L128] at h
    by_cases hc : a5 ≤ a4
    · have h := (if_pos hc).symm.trans h
      exact dX16_field_L155 fu    a0 a1 a3 a4 a5 M hB h
    · have h := (if_neg hc).symm.trans h
      obtain ⟨q1, eq1, h⟩ := bd h
      obtain ⟨v3, M2, eM2, h⟩ := b2d h
      have hB := dX16_headAt fu q1 (a5 - (1 : Int32)) M hB eM2
      obtain ⟨v5, M4, eM4, h⟩ := b2d h
      have hB := dX16_isBlank fu  v3 M2 hB eM4
      by_cases hc : v5 = 0
      · have h := (if_pos hc).symm.trans h
        exact dX16_field_L155 fu    a0 a1 a3 a4 a5 M4 hB h
      · have h := (if_neg hc).symm.trans h
        exact ih a0 a1 a3 a4 (a5 + (-1 : Int32)) M4 hB h
theorem dX16_field_L103 (fu : Nat) {dn : Nat} {out : Int32 × Mm}   : ∀ (n : Nat) (a0 : Nat) (a1 : Int32) (a3 : Int32) (a4 : Int32) (a5 : Int32)  (M : Mm), DP dn M → fX16_field_L103 fu  n a0 a1 a3 a4 a5 M = some out → DP dn out.2 := by
  intro n
  induction n with
  | zero =>
    intro a0 a1 a3 a4 a5 M hB h
    have h : (none : Option (Int32 × Mm)) = some out := h
    cases h
  | succ n ih =>
    intro a0 a1 a3 a4 a5 M hB h
    rw [fX16_field_L103] at h
    by_cases hc : a5 ≤ a4
    · have h := (if_pos hc).symm.trans h
      exact dX16_field_L128 fu   fu a0 a1 a3 a4 a5 M hB h
    · have h := (if_neg hc).symm.trans h
      obtain ⟨q1, eq1, h⟩ := bd h
      obtain ⟨v3, M2, eM2, h⟩ := b2d h
      have hB := dX16_headAt fu q1 a4 M hB eM2
      obtain ⟨v5, M4, eM4, h⟩ := b2d h
      have hB := dX16_isBlank fu  v3 M2 hB eM4
      by_cases hc : v5 = 0
      · have h := (if_pos hc).symm.trans h
        exact dX16_field_L128 fu   fu a0 a1 a3 a4 a5 M4 hB h
      · have h := (if_neg hc).symm.trans h
        exact ih a0 a1 a3 (a4 + (1 : Int32)) a5 M4 hB h
theorem dX16_field_L97 (fu : Nat) {dn : Nat} {out : Int32 × Mm} (k59 : Nat → Int32 → Int32 → Int32 → Int32 → Int32 → Mm → Option (Int32 × Mm)) (hk59 : ∀ (b0 : Nat) (b1 : Int32) (b3 : Int32) (b4 : Int32) (b5 : Int32) (b6 : Int32)  (M : Mm), DP dn M → k59 b0 b1 b3 b4 b5 b6 M = some out → DP dn out.2) (a0 : Nat) (a1 : Int32) (a3 : Int32) (a4 : Int32) (a5 : Int32) (a6 : Int32)  (M : Mm) (hB : DP dn M) (h : fX16_field_L97 fu k59 a0 a1 a3 a4 a5 a6 M = some out) : DP dn out.2 := by
  unfold fX16_field_L97 at h
  exact hk59 a0 a1 a3 a4 a5 (a6 + (1 : Int32)) M hB h
theorem dX16_field_L59 (fu : Nat) {dn : Nat} {out : Int32 × Mm}   : ∀ (n : Nat) (a0 : Nat) (a1 : Int32) (a3 : Int32) (a4 : Int32) (a5 : Int32) (a6 : Int32)  (M : Mm), DP dn M → fX16_field_L59 fu  n a0 a1 a3 a4 a5 a6 M = some out → DP dn out.2 := by
  intro n
  induction n with
  | zero =>
    intro a0 a1 a3 a4 a5 a6 M hB h
    have h : (none : Option (Int32 × Mm)) = some out := h
    cases h
  | succ n ih =>
    intro a0 a1 a3 a4 a5 a6 M hB h
    rw [fX16_field_L59] at h
    by_cases hc : a5 ≤ a6
    · have h := (if_pos hc).symm.trans h
      exact dX16_field_L103 fu   fu a0 a1 a3 a4 a5 M hB h
    · have h := (if_neg hc).symm.trans h
      obtain ⟨q1, eq1, h⟩ := bd h
      obtain ⟨v3, M2, eM2, h⟩ := b2d h
      have hB := dX16_headAt fu q1 a6 M hB eM2
      by_cases hc : v3 = (9 : Int32)
      · have h := (if_pos hc).symm.trans h
        exact dX16_field_L97 fu (fun b0 b1 b3 b4 b5 b6 M => fX16_field_L59 fu  n b0 b1 b3 b4 b5 b6 M) ih  a0 a1 a3 a4 a5 a6 M2 hB h
      · have h := (if_neg hc).symm.trans h
        by_cases hc : v3 < (32 : Int32)
        · have h := (if_pos hc).symm.trans h
          obtain ⟨hz, rfl⟩ := rN_some h
          exact hB
        · have h := (if_neg hc).symm.trans h
          by_cases hc : v3 = (127 : Int32)
          · have h := (if_pos hc).symm.trans h
            obtain ⟨hz, rfl⟩ := rN_some h
            exact hB
          · have h := (if_neg hc).symm.trans h
            exact dX16_field_L97 fu (fun b0 b1 b3 b4 b5 b6 M => fX16_field_L59 fu  n b0 b1 b3 b4 b5 b6 M) ih  a0 a1 a3 a4 a5 a6 M2 hB h
theorem dX16_field_L24 (fu : Nat) {dn : Nat} {out : Int32 × Mm}   (a0 : Nat) (a1 : Int32) (a2 : Int32) (a3 : Int32)  (M : Mm) (hB : DP dn M) (h : fX16_field_L24 fu  a0 a1 a2 a3 M = some out) : DP dn out.2 := by
  unfold fX16_field_L24 at h
  by_cases hc : a3 = a1
  · have h := (if_pos hc).symm.trans h
    obtain ⟨hz, rfl⟩ := rN_some h
    exact hB
  · have h := (if_neg hc).symm.trans h
    by_cases hc : a3 = a2
    · have h := (if_pos hc).symm.trans h
      obtain ⟨hz, rfl⟩ := rN_some h
      exact hB
    · have h := (if_neg hc).symm.trans h
      obtain ⟨v1, ev1, h⟩ := bd h
      obtain ⟨v2, ev2, h⟩ := bd h
      by_cases hc : v2 = (58 : Int32)
      · have h := (if_pos hc).symm.trans h
        exact dX16_field_L59 fu   fu a0 a1 a3 (a3 + (1 : Int32)) a2 (a3 + (1 : Int32)) M hB h
      · have h := (if_neg hc).symm.trans h
        obtain ⟨hz, rfl⟩ := rN_some h
        exact hB
theorem dX16_field_L2 (fu : Nat) {dn : Nat} {out : Int32 × Mm}   : ∀ (n : Nat) (a0 : Nat) (a1 : Int32) (a2 : Int32) (a3 : Int32)  (M : Mm), DP dn M → fX16_field_L2 fu  n a0 a1 a2 a3 M = some out → DP dn out.2 := by
  intro n
  induction n with
  | zero =>
    intro a0 a1 a2 a3 M hB h
    have h : (none : Option (Int32 × Mm)) = some out := h
    cases h
  | succ n ih =>
    intro a0 a1 a2 a3 M hB h
    rw [fX16_field_L2] at h
    by_cases hc : a2 ≤ a3
    · have h := (if_pos hc).symm.trans h
      exact dX16_field_L24 fu    a0 a1 a2 a3 M hB h
    · have h := (if_neg hc).symm.trans h
      obtain ⟨q1, eq1, h⟩ := bd h
      obtain ⟨v3, M2, eM2, h⟩ := b2d h
      have hB := dX16_headAt fu q1 a3 M hB eM2
      obtain ⟨v5, M4, eM4, h⟩ := b2d h
      have hB := dX16_isNameCode fu  v3 M2 hB eM4
      by_cases hc : v5 = 0
      · have h := (if_pos hc).symm.trans h
        exact dX16_field_L24 fu    a0 a1 a2 a3 M4 hB h
      · have h := (if_neg hc).symm.trans h
        exact ih a0 a1 a2 (a3 + (1 : Int32)) M4 hB h
theorem dX16_field (fu : Nat) {dn : Nat} {out : Int32 × Mm}   (a0 : Nat) (a1 : Int32) (a2 : Int32)  (M : Mm) (hB : DP dn M) (h : fX16_field fu  a0 a1 a2 M = some out) : DP dn out.2 := by
  unfold fX16_field at h
  exact dX16_field_L2 fu   fu a0 a1 a2 a1 M hB h
theorem dX16_hexadecimal (fu : Nat) {dn : Nat} {out : Int32 × Mm}   (a0 : Int32)  (M : Mm) (hB : DP dn M) (h : fX16_hexadecimal fu  a0 M = some out) : DP dn out.2 := by
  unfold fX16_hexadecimal at h
  obtain ⟨v2, M1, eM1, h⟩ := b2d h
  have hB := dX16_isDigit fu  a0 M hB eM1
  by_cases hc : v2 = 0
  · have h := (if_pos hc).symm.trans h
    obtain ⟨v4, M3, eM3, h⟩ := b2d h
    have hB := dX16_small fu  a0 M1 hB eM3
    by_cases hc : v4 < (97 : Int32)
    · have h := (if_pos hc).symm.trans h
      obtain rfl := Option.some.inj h
      exact hB
    · have h := (if_neg hc).symm.trans h
      obtain ⟨v6, M5, eM5, h⟩ := b2d h
      have hB := dX16_small fu  a0 M3 hB eM5
      by_cases hc : (102 : Int32) < v6
      · have h := (if_pos hc).symm.trans h
        obtain rfl := Option.some.inj h
        exact hB
      · have h := (if_neg hc).symm.trans h
        obtain ⟨v8, M7, eM7, h⟩ := b2d h
        have hB := dX16_small fu  a0 M5 hB eM7
        obtain rfl := Option.some.inj h
        exact hB
  · have h := (if_neg hc).symm.trans h
    obtain rfl := Option.some.inj h
    exact hB
theorem dX16_unfolded_L174 (fu : Nat) {dn : Nat} {out : Int32 × Mm}   : ∀ (n : Nat) (a0 : Nat) (a2 : Option Nat) (a3 : Int32)  (M : Mm), DP dn M → fX16_unfolded_L174 fu  n a0 a2 a3 M = some out → DP dn out.2 := by
  intro n
  induction n with
  | zero =>
    intro a0 a2 a3 M hB h
    have h : (none : Option (Int32 × Mm)) = some out := h
    cases h
  | succ n ih =>
    intro a0 a2 a3 M hB h
    rw [fX16_unfolded_L174] at h
    obtain ⟨q1, eq1, h⟩ := bd h
    obtain ⟨v3, M2, eM2, h⟩ := b2d h
    have hB := dJ0_length_8abf5 fu q1  M hB eM2
    by_cases hc : v3 ≤ a3
    · have h := (if_pos hc).symm.trans h
      obtain ⟨v4, ev4, h⟩ := bd h
      obtain ⟨q5, eq5, h⟩ := bd h
      obtain ⟨v7, M6, eM6, h⟩ := b2d h
      have hB := dJ0_length_8abf5 fu q5  M2 hB eM6
      obtain ⟨M8, eM8, h⟩ := bd h
      have hB := d_pF hB eM8 (by decide)
      obtain ⟨hz, rfl⟩ := rN_some h
      exact hB
    · have h := (if_neg hc).symm.trans h
      obtain ⟨v9, ev9, h⟩ := bd h
      obtain ⟨v10, ev10, h⟩ := bd h
      obtain ⟨q11, eq11, h⟩ := bd h
      obtain ⟨v13, M12, eM12, h⟩ := b2d h
      have hB := dJ0_charAt_5068e fu q11 a3 M2 hB eM12
      obtain ⟨M14, eM14, h⟩ := bd h
      have hB := d_pA hB eM14
      exact ih a0 a2 (a3 + (1 : Int32)) M14 hB h
theorem dX16_unfolded_L152 (fu : Nat) {dn : Nat} {out : Int32 × Mm}   (a0 : Nat)  (M : Mm) (hB : DP dn M) (h : fX16_unfolded_L152 fu  a0 M = some out) : DP dn out.2 := by
  unfold fX16_unfolded_L152 at h
  obtain ⟨v1, ev1, h⟩ := bd h
  obtain ⟨v2, ev2, h⟩ := bd h
  obtain ⟨v3, ev3, h⟩ := bd h
  by_cases hc : v3 = (47 : Int32)
  · have h := (if_pos hc).symm.trans h
    exact dX16_unfolded_L174 fu   fu a0 (some 12) (0 : Int32) M hB h
  · have h := (if_neg hc).symm.trans h
    obtain ⟨hz, rfl⟩ := rN_some h
    exact hB
theorem dX16_unfolded_L128 (fu : Nat) {dn : Nat} {out : Int32 × Mm} (k10 : Nat → Int32 → Mm → Option (Int32 × Mm)) (hk10 : ∀ (b0 : Nat) (b1 : Int32)  (M : Mm), DP dn M → k10 b0 b1 M = some out → DP dn out.2) (a0 : Nat) (a1 : Int32) (a2 : Int32)  (M : Mm) (hB : DP dn M) (h : fX16_unfolded_L128 fu k10 a0 a1 a2 M = some out) : DP dn out.2 := by
  unfold fX16_unfolded_L128 at h
  obtain ⟨v1, ev1, h⟩ := bd h
  obtain ⟨v2, ev2, h⟩ := bd h
  obtain ⟨M3, eM3, h⟩ := bd h
  have hB := d_pA hB eM3
  obtain ⟨v4, ev4, h⟩ := bd h
  obtain ⟨M5, eM5, h⟩ := bd h
  have hB := d_pF hB eM5 (by decide)
  exact hk10 a0 a1 M5 hB h
theorem dX16_unfolded_L89 (fu : Nat) {dn : Nat} {out : Int32 × Mm} (k10 : Nat → Int32 → Mm → Option (Int32 × Mm)) (hk10 : ∀ (b0 : Nat) (b1 : Int32)  (M : Mm), DP dn M → k10 b0 b1 M = some out → DP dn out.2) (a0 : Nat) (a1 : Int32) (a3 : Int32) (s0 : Int32) (M : Mm) (hB : DP dn M) (h : fX16_unfolded_L89 fu k10 a0 a1 a3 s0 M = some out) : DP dn out.2 := by
  unfold fX16_unfolded_L89 at h
  by_cases hc : a3 < 0
  · have h := (if_pos hc).symm.trans h
    obtain ⟨hz, rfl⟩ := rN_some h
    exact hB
  · have h := (if_neg hc).symm.trans h
    by_cases hc : 0 ≤ s0
    · have h := (if_pos hc).symm.trans h
      by_cases hc : (((16 : Int32) * a3) + s0) < (33 : Int32)
      · have h := (if_pos hc).symm.trans h
        obtain ⟨hz, rfl⟩ := rN_some h
        exact hB
      · have h := (if_neg hc).symm.trans h
        by_cases hc : (((16 : Int32) * a3) + s0) ≤ (126 : Int32)
        · have h := (if_pos hc).symm.trans h
          exact dX16_unfolded_L128 fu k10 hk10  a0 (a1 + (2 : Int32)) (((16 : Int32) * a3) + s0) M hB h
        · have h := (if_neg hc).symm.trans h
          obtain ⟨hz, rfl⟩ := rN_some h
          exact hB
    · have h := (if_neg hc).symm.trans h
      obtain ⟨hz, rfl⟩ := rN_some h
      exact hB
theorem dX16_unfolded_L64 (fu : Nat) {dn : Nat} {out : Int32 × Mm} (k10 : Nat → Int32 → Mm → Option (Int32 × Mm)) (hk10 : ∀ (b0 : Nat) (b1 : Int32)  (M : Mm), DP dn M → k10 b0 b1 M = some out → DP dn out.2) (a0 : Nat) (a1 : Int32) (s0 : Int32) (M : Mm) (hB : DP dn M) (h : fX16_unfolded_L64 fu k10 a0 a1 s0 M = some out) : DP dn out.2 := by
  unfold fX16_unfolded_L64 at h
  obtain ⟨v1, ev1, h⟩ := bd h
  by_cases hc : v1 ≤ (a1 + (1 : Int32))
  · have h := (if_pos hc).symm.trans h
    exact dX16_unfolded_L89 fu k10 hk10  a0 a1 s0 (-1 : Int32) M hB h
  · have h := (if_neg hc).symm.trans h
    obtain ⟨q2, eq2, h⟩ := bd h
    obtain ⟨v4, M3, eM3, h⟩ := b2d h
    have hB := dX16_headAt fu q2 (a1 + (1 : Int32)) M hB eM3
    obtain ⟨v6, M5, eM5, h⟩ := b2d h
    have hB := dX16_hexadecimal fu  v4 M3 hB eM5
    exact dX16_unfolded_L89 fu k10 hk10  a0 a1 s0 v6 M5 hB h
theorem dX16_unfolded_L10 (fu : Nat) {dn : Nat} {out : Int32 × Mm}   : ∀ (n : Nat) (a0 : Nat) (a1 : Int32)  (M : Mm), DP dn M → fX16_unfolded_L10 fu  n a0 a1 M = some out → DP dn out.2 := by
  intro n
  induction n with
  | zero =>
    intro a0 a1 M hB h
    have h : (none : Option (Int32 × Mm)) = some out := h
    cases h
  | succ n ih =>
    intro a0 a1 M hB h
    rw [fX16_unfolded_L10] at h
    obtain ⟨v1, ev1, h⟩ := bd h
    by_cases hc : v1 ≤ a1
    · have h := (if_pos hc).symm.trans h
      exact dX16_unfolded_L152 fu    a0 M hB h
    · have h := (if_neg hc).symm.trans h
      obtain ⟨v2, ev2, h⟩ := bd h
      obtain ⟨v3, ev3, h⟩ := bd h
      by_cases hc : v3 = (63 : Int32)
      · have h := (if_pos hc).symm.trans h
        exact dX16_unfolded_L152 fu    a0 M hB h
      · have h := (if_neg hc).symm.trans h
        obtain ⟨q4, eq4, h⟩ := bd h
        obtain ⟨v6, M5, eM5, h⟩ := b2d h
        have hB := dX16_headAt fu q4 a1 M hB eM5
        by_cases hc : v6 = (37 : Int32)
        · have h := (if_pos hc).symm.trans h
          obtain ⟨v7, ev7, h⟩ := bd h
          by_cases hc : v7 ≤ (a1 + (1 : Int32))
          · have h := (if_pos hc).symm.trans h
            exact dX16_unfolded_L64 fu (fun b0 b1 M => fX16_unfolded_L10 fu  n b0 b1 M) ih  a0 (a1 + (1 : Int32)) (-1 : Int32) M5 hB h
          · have h := (if_neg hc).symm.trans h
            obtain ⟨q8, eq8, h⟩ := bd h
            obtain ⟨v10, M9, eM9, h⟩ := b2d h
            have hB := dX16_headAt fu q8 (a1 + (1 : Int32)) M5 hB eM9
            obtain ⟨v12, M11, eM11, h⟩ := b2d h
            have hB := dX16_hexadecimal fu  v10 M9 hB eM11
            exact dX16_unfolded_L64 fu (fun b0 b1 M => fX16_unfolded_L10 fu  n b0 b1 M) ih  a0 (a1 + (1 : Int32)) v12 M11 hB h
        · have h := (if_neg hc).symm.trans h
          exact dX16_unfolded_L128 fu (fun b0 b1 M => fX16_unfolded_L10 fu  n b0 b1 M) ih  a0 (a1 + (1 : Int32)) v6 M5 hB h
theorem dX16_unfolded (fu : Nat) {dn : Nat} {out : Int32 × Mm}   (a0 : Nat)  (M : Mm) (hB : DP dn M) (h : fX16_unfolded fu  a0 M = some out) : DP dn out.2 := by
  unfold fX16_unfolded at h
  obtain ⟨M1, eM1, h⟩ := bd h
  have hB := d_pF hB eM1 (by decide)
  obtain ⟨v2, ev2, h⟩ := bd h
  exact dX16_unfolded_L10 fu   fu a0 v2 M1 hB h
theorem dX16_found_L70 (fu : Nat) {dn : Nat} {out : Int32 × Mm} (k2 : Nat → Int32 → Mm → Option (Int32 × Mm)) (k23 : Nat → Int32 → Int32 → Int32 → Mm → Option (Int32 × Mm)) (hk2 : ∀ (b0 : Nat) (b1 : Int32)  (M : Mm), DP dn M → k2 b0 b1 M = some out → DP dn out.2) (hk23 : ∀ (b0 : Nat) (b1 : Int32) (b2 : Int32) (b3 : Int32)  (M : Mm), DP dn M → k23 b0 b1 b2 b3 M = some out → DP dn out.2) (a0 : Nat) (a1 : Int32) (a3 : Int32) (s0 : Int32) (M : Mm) (hB : DP dn M) (h : fX16_found_L70 fu k2 k23 a0 a1 a3 s0 M = some out) : DP dn out.2 := by
  unfold fX16_found_L70 at h
  exact hk23 a0 a1 s0 (a3 + (1 : Int32)) M hB h
theorem dX16_found_L69 (fu : Nat) {dn : Nat} {out : Int32 × Mm} (k2 : Nat → Int32 → Mm → Option (Int32 × Mm)) (k23 : Nat → Int32 → Int32 → Int32 → Mm → Option (Int32 × Mm)) (hk2 : ∀ (b0 : Nat) (b1 : Int32)  (M : Mm), DP dn M → k2 b0 b1 M = some out → DP dn out.2) (hk23 : ∀ (b0 : Nat) (b1 : Int32) (b2 : Int32) (b3 : Int32)  (M : Mm), DP dn M → k23 b0 b1 b2 b3 M = some out → DP dn out.2) (a0 : Nat) (a1 : Int32) (a3 : Int32)  (M : Mm) (hB : DP dn M) (h : fX16_found_L69 fu k2 k23 a0 a1 a3 M = some out) : DP dn out.2 := by
  unfold fX16_found_L69 at h
  exact dX16_found_L70 fu k2 k23 hk2 hk23  a0 a1 a3 (0 : Int32) M hB h
theorem dX16_found_L62 (fu : Nat) {dn : Nat} {out : Int32 × Mm} (k2 : Nat → Int32 → Mm → Option (Int32 × Mm)) (k23 : Nat → Int32 → Int32 → Int32 → Mm → Option (Int32 × Mm)) (hk2 : ∀ (b0 : Nat) (b1 : Int32)  (M : Mm), DP dn M → k2 b0 b1 M = some out → DP dn out.2) (hk23 : ∀ (b0 : Nat) (b1 : Int32) (b2 : Int32) (b3 : Int32)  (M : Mm), DP dn M → k23 b0 b1 b2 b3 M = some out → DP dn out.2) (a0 : Nat) (a1 : Int32) (a3 : Int32) (s0 : Int32) (s1 : Int32) (M : Mm) (hB : DP dn M) (h : fX16_found_L62 fu k2 k23 a0 a1 a3 s0 s1 M = some out) : DP dn out.2 := by
  unfold fX16_found_L62 at h
  by_cases hc : s0 = s1
  · have h := (if_pos hc).symm.trans h
    exact dX16_found_L70 fu k2 k23 hk2 hk23  a0 a1 a3 (1 : Int32) M hB h
  · have h := (if_neg hc).symm.trans h
    exact dX16_found_L69 fu k2 k23 hk2 hk23  a0 a1 a3 M hB h
theorem dX16_found_L23 (fu : Nat) {dn : Nat} {out : Int32 × Mm} (k2 : Nat → Int32 → Mm → Option (Int32 × Mm)) (hk2 : ∀ (b0 : Nat) (b1 : Int32)  (M : Mm), DP dn M → k2 b0 b1 M = some out → DP dn out.2) : ∀ (n : Nat) (a0 : Nat) (a1 : Int32) (a2 : Int32) (a3 : Int32)  (M : Mm), DP dn M → fX16_found_L23 fu k2 n a0 a1 a2 a3 M = some out → DP dn out.2 := by
  intro n
  induction n with
  | zero =>
    intro a0 a1 a2 a3 M hB h
    have h : (none : Option (Int32 × Mm)) = some out := h
    cases h
  | succ n ih =>
    intro a0 a1 a2 a3 M hB h
    rw [fX16_found_L23] at h
    by_cases hc : (48 : Int32) ≤ a3
    · have h := (if_pos hc).symm.trans h
      by_cases hc : a2 = 0
      · have h := (if_pos hc).symm.trans h
        exact hk2 a0 (a1 + (1 : Int32)) M hB h
      · have h := (if_neg hc).symm.trans h
        obtain rfl := Option.some.inj h
        exact hB
    · have h := (if_neg hc).symm.trans h
      by_cases hc : a2 = 0
      · have h := (if_pos hc).symm.trans h
        exact dX16_found_L69 fu k2 (fun b0 b1 b2 b3 M => fX16_found_L23 fu k2 n b0 b1 b2 b3 M) hk2 ih  a0 a1 a3 M hB h
      · have h := (if_neg hc).symm.trans h
        obtain ⟨v1, ev1, h⟩ := bd h
        obtain ⟨v2, ev2, h⟩ := bd h
        obtain ⟨v3, ev3, h⟩ := bd h
        by_cases hc : v3 ≤ a3
        · have h := (if_pos hc).symm.trans h
          exact dX16_found_L62 fu k2 (fun b0 b1 b2 b3 M => fX16_found_L23 fu k2 n b0 b1 b2 b3 M) hk2 ih  a0 a1 a3 v2 (0 : Int32) M hB h
        · have h := (if_neg hc).symm.trans h
          obtain ⟨v4, ev4, h⟩ := bd h
          obtain ⟨v5, ev5, h⟩ := bd h
          exact dX16_found_L62 fu k2 (fun b0 b1 b2 b3 M => fX16_found_L23 fu k2 n b0 b1 b2 b3 M) hk2 ih  a0 a1 a3 v2 v5 M hB h
theorem dX16_found_L2 (fu : Nat) {dn : Nat} {out : Int32 × Mm}   : ∀ (n : Nat) (a0 : Nat) (a1 : Int32)  (M : Mm), DP dn M → fX16_found_L2 fu  n a0 a1 M = some out → DP dn out.2 := by
  intro n
  induction n with
  | zero =>
    intro a0 a1 M hB h
    have h : (none : Option (Int32 × Mm)) = some out := h
    cases h
  | succ n ih =>
    intro a0 a1 M hB h
    rw [fX16_found_L2] at h
    obtain ⟨v1, ev1, h⟩ := bd h
    by_cases hc : v1 ≤ a1
    · have h := (if_pos hc).symm.trans h
      obtain rfl := Option.some.inj h
      exact hB
    · have h := (if_neg hc).symm.trans h
      obtain ⟨v2, ev2, h⟩ := bd h
      by_cases hc : (48 : Int32) ≤ v2
      · have h := (if_pos hc).symm.trans h
        obtain rfl := Option.some.inj h
        exact hB
      · have h := (if_neg hc).symm.trans h
        exact dX16_found_L23 fu (fun b0 b1 M => fX16_found_L2 fu  n b0 b1 M) ih fu a0 a1 (1 : Int32) (0 : Int32) M hB h
theorem dX16_found (fu : Nat) {dn : Nat} {out : Int32 × Mm}   (a0 : Nat)  (M : Mm) (hB : DP dn M) (h : fX16_found fu  a0 M = some out) : DP dn out.2 := by
  unfold fX16_found at h
  exact dX16_found_L2 fu   fu a0 (0 : Int32) M hB h
theorem dX16_hexDigit (fu : Nat) {dn : Nat} {out : Int32 × Mm}   (a0 : Int32) (a1 : Int32)  (M : Mm) (hB : DP dn M) (h : fX16_hexDigit fu  a0 a1 M = some out) : DP dn out.2 := by
  unfold fX16_hexDigit at h
  obtain ⟨v1, ev1, h⟩ := bd h
  by_cases hc : (10 : Int32) ≤ v1
  · have h := (if_pos hc).symm.trans h
    obtain rfl := Option.some.inj h
    exact hB
  · have h := (if_neg hc).symm.trans h
    obtain rfl := Option.some.inj h
    exact hB
theorem dX16_fits_L68 (fu : Nat) {dn : Nat} {out : Int32 × Mm}   : ∀ (n : Nat) (a0 : Nat) (a1 : Int32) (a2 : Int32)  (M : Mm), DP dn M → fX16_fits_L68 fu  n a0 a1 a2 M = some out → DP dn out.2 := by
  intro n
  induction n with
  | zero =>
    intro a0 a1 a2 M hB h
    have h : (none : Option (Int32 × Mm)) = some out := h
    cases h
  | succ n ih =>
    intro a0 a1 a2 M hB h
    rw [fX16_fits_L68] at h
    by_cases hc : (8 : Int32) ≤ a2
    · have h := (if_pos hc).symm.trans h
      obtain ⟨hz, rfl⟩ := rN_some h
      exact hB
    · have h := (if_neg hc).symm.trans h
      obtain ⟨v1, ev1, h⟩ := bd h
      obtain ⟨q2, eq2, h⟩ := bd h
      obtain ⟨v4, M3, eM3, h⟩ := b2d h
      have hB := dX16_headAt fu q2 ((v1 + (1 : Int32)) + a2) M hB eM3
      obtain ⟨v5, ev5, h⟩ := bd h
      obtain ⟨v6, ev6, h⟩ := bd h
      obtain ⟨v8, M7, eM7, h⟩ := b2d h
      have hB := dX16_hexDigit fu  v6 a2 M3 hB eM7
      by_cases hc : v4 = v8
      · have h := (if_pos hc).symm.trans h
        exact ih a0 a1 (a2 + (1 : Int32)) M7 hB h
      · have h := (if_neg hc).symm.trans h
        obtain ⟨hz, rfl⟩ := rN_some h
        exact hB
theorem dX16_fits (fu : Nat) {dn : Nat} {out : Int32 × Mm}   (a0 : Nat) (a1 : Int32)  (M : Mm) (hB : DP dn M) (h : fX16_fits fu  a0 a1 M = some out) : DP dn out.2 := by
  unfold fX16_fits at h
  obtain ⟨v1, ev1, h⟩ := bd h
  obtain ⟨v2, ev2, h⟩ := bd h
  obtain ⟨q3, eq3, h⟩ := bd h
  obtain ⟨v5, M4, eM4, h⟩ := b2d h
  have hB := dX16_says fu q3 v1 v2 (some 13) M hB eM4
  by_cases hc : v5 = 0
  · have h := (if_pos hc).symm.trans h
    obtain ⟨v6, ev6, h⟩ := bd h
    obtain ⟨v7, ev7, h⟩ := bd h
    by_cases hc : (v6 - v7) = (10 : Int32)
    · have h := (if_pos hc).symm.trans h
      obtain ⟨v8, ev8, h⟩ := bd h
      obtain ⟨v9, ev9, h⟩ := bd h
      obtain ⟨v10, ev10, h⟩ := bd h
      by_cases hc : v10 = (34 : Int32)
      · have h := (if_pos hc).symm.trans h
        obtain ⟨v11, ev11, h⟩ := bd h
        obtain ⟨v12, ev12, h⟩ := bd h
        obtain ⟨v13, ev13, h⟩ := bd h
        by_cases hc : v13 = (34 : Int32)
        · have h := (if_pos hc).symm.trans h
          exact dX16_fits_L68 fu   fu a0 a1 (0 : Int32) M4 hB h
        · have h := (if_neg hc).symm.trans h
          obtain ⟨hz, rfl⟩ := rN_some h
          exact hB
      · have h := (if_neg hc).symm.trans h
        obtain ⟨hz, rfl⟩ := rN_some h
        exact hB
    · have h := (if_neg hc).symm.trans h
      obtain ⟨hz, rfl⟩ := rN_some h
      exact hB
  · have h := (if_neg hc).symm.trans h
    obtain ⟨hz, rfl⟩ := rN_some h
    exact hB
theorem dX16_chosen_L221 (fu : Nat) {dn : Nat} {out : Int32 × Mm}   (a0 : Nat) (a1 : Int32)  (M : Mm) (hB : DP dn M) (h : fX16_chosen_L221 fu  a0 a1 M = some out) : DP dn out.2 := by
  unfold fX16_chosen_L221 at h
  obtain ⟨v1, ev1, h⟩ := bd h
  by_cases hc : v1 = (200 : Int32)
  · have h := (if_pos hc).symm.trans h
    obtain rfl := Option.some.inj h
    exact hB
  · have h := (if_neg hc).symm.trans h
    obtain ⟨v2, ev2, h⟩ := bd h
    by_cases hc : v2 = (304 : Int32)
    · have h := (if_pos hc).symm.trans h
      obtain rfl := Option.some.inj h
      exact hB
    · have h := (if_neg hc).symm.trans h
      obtain rfl := Option.some.inj h
      exact hB
theorem dX16_chosen_L218 (fu : Nat) {dn : Nat} {out : Int32 × Mm}   (a0 : Nat) (a1 : Int32) (s0 : Option Nat) (s1 : Int32) (M : Mm) (hB : DP dn M) (h : fX16_chosen_L218 fu  a0 a1 s0 s1 M = some out) : DP dn out.2 := by
  unfold fX16_chosen_L218 at h
  obtain ⟨M1, eM1, h⟩ := bd h
  have hB := d_pF hB eM1 (by decide)
  exact dX16_chosen_L221 fu    a0 a1 M1 hB h
theorem dX16_chosen_L215 (fu : Nat) {dn : Nat} {out : Int32 × Mm}   (a0 : Nat) (a1 : Int32) (s0 : Option Nat) (M : Mm) (hB : DP dn M) (h : fX16_chosen_L215 fu  a0 a1 s0 M = some out) : DP dn out.2 := by
  unfold fX16_chosen_L215 at h
  exact dX16_chosen_L218 fu    a0 a1 s0 (200 : Int32) M hB h
theorem dX16_chosen_L122 (fu : Nat) {dn : Nat} {out : Int32 × Mm}   (a0 : Nat)  (M : Mm) (hB : DP dn M) (h : fX16_chosen_L122 fu  a0 M = some out) : DP dn out.2 := by
  unfold fX16_chosen_L122 at h
  obtain ⟨v1, ev1, h⟩ := bd h
  by_cases hc : v1 = 0
  · have h := (if_pos hc).symm.trans h
    obtain ⟨q2, eq2, h⟩ := bd h
    obtain ⟨v4, M3, eM3, h⟩ := b2d h
    have hB := dX16_found fu q2  M hB eM3
    by_cases hc : 0 ≤ v4
    · have h := (if_pos hc).symm.trans h
      obtain ⟨v5, ev5, h⟩ := bd h
      obtain ⟨v6, ev6, h⟩ := bd h
      obtain ⟨v7, ev7, h⟩ := bd h
      obtain ⟨v8, ev8, h⟩ := bd h
      obtain ⟨v9, ev9, h⟩ := bd h
      obtain ⟨v10, ev10, h⟩ := bd h
      obtain ⟨q11, eq11, h⟩ := bd h
      obtain ⟨v13, M12, eM12, h⟩ := b2d h
      have hB := dX16_check fu q11 v6 (v8 + v10) M3 hB eM12
      obtain ⟨v14, ev14, h⟩ := bd h
      obtain ⟨v15, ev15, h⟩ := bd h
      by_cases hc : v13 = v15
      · have h := (if_pos hc).symm.trans h
        obtain ⟨v16, ev16, h⟩ := bd h
        by_cases hc : v16 = (1 : Int32)
        · have h := (if_pos hc).symm.trans h
          obtain ⟨q17, eq17, h⟩ := bd h
          obtain ⟨v19, M18, eM18, h⟩ := b2d h
          have hB := dX16_fits fu q17 v4 M12 hB eM18
          by_cases hc : v19 = 0
          · have h := (if_pos hc).symm.trans h
            exact dX16_chosen_L215 fu    a0 v4 (some a0) M18 hB h
          · have h := (if_neg hc).symm.trans h
            exact dX16_chosen_L218 fu    a0 v4 (some a0) (304 : Int32) M18 hB h
        · have h := (if_neg hc).symm.trans h
          exact dX16_chosen_L215 fu    a0 v4 (some a0) M12 hB h
      · have h := (if_neg hc).symm.trans h
        obtain ⟨M20, eM20, h⟩ := bd h
        have hB := d_pF hB eM20 (by decide)
        exact dX16_chosen_L221 fu    a0 v4 M20 hB h
    · have h := (if_neg hc).symm.trans h
      obtain ⟨M21, eM21, h⟩ := bd h
      have hB := d_pF hB eM21 (by decide)
      exact dX16_chosen_L221 fu    a0 v4 M21 hB h
  · have h := (if_neg hc).symm.trans h
    obtain rfl := Option.some.inj h
    exact hB
theorem dX16_chosen_L22 (fu : Nat) {dn : Nat} {out : Int32 × Mm}   (a0 : Nat)  (M : Mm) (hB : DP dn M) (h : fX16_chosen_L22 fu  a0 M = some out) : DP dn out.2 := by
  unfold fX16_chosen_L22 at h
  obtain ⟨M1, eM1, h⟩ := bd h
  have hB := d_pF hB eM1 (by decide)
  exact dX16_chosen_L122 fu    a0 M1 hB h
theorem dX16_chosen_L64 (fu : Nat) {dn : Nat} {out : Int32 × Mm}   (a0 : Nat)  (M : Mm) (hB : DP dn M) (h : fX16_chosen_L64 fu  a0 M = some out) : DP dn out.2 := by
  unfold fX16_chosen_L64 at h
  obtain ⟨M1, eM1, h⟩ := bd h
  have hB := d_pF hB eM1 (by decide)
  exact dX16_chosen_L122 fu    a0 M1 hB h
theorem dX16_chosen_L32 (fu : Nat) {dn : Nat} {out : Int32 × Mm}   (a0 : Nat)  (M : Mm) (hB : DP dn M) (h : fX16_chosen_L32 fu  a0 M = some out) : DP dn out.2 := by
  unfold fX16_chosen_L32 at h
  obtain ⟨v1, ev1, h⟩ := bd h
  by_cases hc : v1 = 0
  · have h := (if_pos hc).symm.trans h
    obtain ⟨v2, ev2, h⟩ := bd h
    by_cases hc : (1 : Int32) < v2
    · have h := (if_pos hc).symm.trans h
      exact dX16_chosen_L64 fu    a0 M hB h
    · have h := (if_neg hc).symm.trans h
      obtain ⟨v3, ev3, h⟩ := bd h
      by_cases hc : v3 = 0
      · have h := (if_pos hc).symm.trans h
        obtain ⟨v4, ev4, h⟩ := bd h
        by_cases hc : v4 = 0
        · have h := (if_pos hc).symm.trans h
          obtain ⟨v5, ev5, h⟩ := bd h
          by_cases hc : v5 = 0
          · have h := (if_pos hc).symm.trans h
            obtain ⟨q6, eq6, h⟩ := bd h
            obtain ⟨v8, M7, eM7, h⟩ := b2d h
            have hB := dX16_unfolded fu q6  M hB eM7
            by_cases hc : v8 = 0
            · have h := (if_pos hc).symm.trans h
              obtain ⟨M9, eM9, h⟩ := bd h
              have hB := d_pF hB eM9 (by decide)
              exact dX16_chosen_L122 fu    a0 M9 hB h
            · have h := (if_neg hc).symm.trans h
              exact dX16_chosen_L122 fu    a0 M7 hB h
          · have h := (if_neg hc).symm.trans h
            obtain ⟨M10, eM10, h⟩ := bd h
            have hB := d_pF hB eM10 (by decide)
            exact dX16_chosen_L122 fu    a0 M10 hB h
        · have h := (if_neg hc).symm.trans h
          obtain ⟨M11, eM11, h⟩ := bd h
          have hB := d_pF hB eM11 (by decide)
          exact dX16_chosen_L122 fu    a0 M11 hB h
      · have h := (if_neg hc).symm.trans h
        exact dX16_chosen_L64 fu    a0 M hB h
  · have h := (if_neg hc).symm.trans h
    obtain ⟨M12, eM12, h⟩ := bd h
    have hB := d_pF hB eM12 (by decide)
    exact dX16_chosen_L122 fu    a0 M12 hB h
theorem dX16_chosen (fu : Nat) {dn : Nat} {out : Int32 × Mm}   (a0 : Nat)  (M : Mm) (hB : DP dn M) (h : fX16_chosen fu  a0 M = some out) : DP dn out.2 := by
  unfold fX16_chosen at h
  obtain ⟨v1, ev1, h⟩ := bd h
  by_cases hc : (1 : Int32) < v1
  · have h := (if_pos hc).symm.trans h
    exact dX16_chosen_L22 fu    a0 M hB h
  · have h := (if_neg hc).symm.trans h
    obtain ⟨v2, ev2, h⟩ := bd h
    by_cases hc : v2 = 0
    · have h := (if_pos hc).symm.trans h
      obtain ⟨v3, ev3, h⟩ := bd h
      by_cases hc : v3 = 0
      · have h := (if_pos hc).symm.trans h
        exact dX16_chosen_L22 fu    a0 M hB h
      · have h := (if_neg hc).symm.trans h
        exact dX16_chosen_L32 fu    a0 M hB h
    · have h := (if_neg hc).symm.trans h
      exact dX16_chosen_L32 fu    a0 M hB h
theorem dX16_code (fu : Nat) {dn : Nat} {out : Mm}   (a0 : Nat) (a1 : Option Nat) (a2 : Int32)  (M : Mm) (hB : DP dn M) (h : fX16_code fu  a0 a1 a2 M = some out) : DP dn out := by
  unfold fX16_code at h
  obtain ⟨v1, ev1, h⟩ := bd h
  obtain ⟨v2, ev2, h⟩ := bd h
  obtain ⟨M3, eM3, h⟩ := bd h
  have hB := d_pA hB eM3
  obtain ⟨v4, ev4, h⟩ := bd h
  obtain ⟨M5, eM5, h⟩ := bd h
  have hB := d_pF hB eM5 (by decide)
  obtain rfl := Option.some.inj h
  exact hB
theorem dX16_say_L2 (fu : Nat) {dn : Nat} {out : Mm}   : ∀ (n : Nat) (a0 : Nat) (a1 : Option Nat) (a2 : Option Nat) (a3 : Int32)  (M : Mm), DP dn M → fX16_say_L2 fu  n a0 a1 a2 a3 M = some out → DP dn out := by
  intro n
  induction n with
  | zero =>
    intro a0 a1 a2 a3 M hB h
    have h : (none : Option (Mm)) = some out := h
    cases h
  | succ n ih =>
    intro a0 a1 a2 a3 M hB h
    rw [fX16_say_L2] at h
    obtain ⟨q1, eq1, h⟩ := bd h
    obtain ⟨v3, M2, eM2, h⟩ := b2d h
    have hB := dJ0_length_8abf5 fu q1  M hB eM2
    by_cases hc : v3 ≤ a3
    · have h := (if_pos hc).symm.trans h
      obtain rfl := Option.some.inj h
      exact hB
    · have h := (if_neg hc).symm.trans h
      obtain ⟨q4, eq4, h⟩ := bd h
      obtain ⟨v6, M5, eM5, h⟩ := b2d h
      have hB := dJ0_charAt_5068e fu q4 a3 M2 hB eM5
      obtain ⟨q7, eq7, h⟩ := bd h
      obtain ⟨M8, eM8, h⟩ := bd h
      have hB := dX16_code fu q7 a1 v6 M5 hB eM8
      exact ih a0 a1 a2 (a3 + (1 : Int32)) M8 hB h
theorem dX16_say (fu : Nat) {dn : Nat} {out : Mm}   (a0 : Nat) (a1 : Option Nat) (a2 : Option Nat)  (M : Mm) (hB : DP dn M) (h : fX16_say fu  a0 a1 a2 M = some out) : DP dn out := by
  unfold fX16_say at h
  exact dX16_say_L2 fu   fu a0 a1 a2 (0 : Int32) M hB h
theorem dX16_sayNumber_L21 (fu : Nat) {dn : Nat} {out : Mm}   : ∀ (n : Nat) (a0 : Nat) (a1 : Option Nat) (a2 : Int32) (a4 : Int32)  (M : Mm), DP dn M → fX16_sayNumber_L21 fu  n a0 a1 a2 a4 M = some out → DP dn out := by
  intro n
  induction n with
  | zero =>
    intro a0 a1 a2 a4 M hB h
    have h : (none : Option (Mm)) = some out := h
    cases h
  | succ n ih =>
    intro a0 a1 a2 a4 M hB h
    rw [fX16_sayNumber_L21] at h
    by_cases hc : a4 ≤ 0
    · have h := (if_pos hc).symm.trans h
      obtain rfl := Option.some.inj h
      exact hB
    · have h := (if_neg hc).symm.trans h
      by_cases hz : a4 = 0
      · rw [if_pos hz] at h; cases h
      have h := (if_neg hz).symm.trans h
      obtain ⟨q1, eq1, h⟩ := bd h
      obtain ⟨M2, eM2, h⟩ := bd h
      have hB := dX16_code fu q1 a1 ((48 : Int32) + (irm (a2 / a4) (10 : Int32))) M hB eM2
      exact ih a0 a1 a2 (a4 / (10 : Int32)) M2 hB h
theorem dX16_sayNumber_L2 (fu : Nat) {dn : Nat} {out : Mm}   : ∀ (n : Nat) (a0 : Nat) (a1 : Option Nat) (a2 : Int32) (a3 : Int32)  (M : Mm), DP dn M → fX16_sayNumber_L2 fu  n a0 a1 a2 a3 M = some out → DP dn out := by
  intro n
  induction n with
  | zero =>
    intro a0 a1 a2 a3 M hB h
    have h : (none : Option (Mm)) = some out := h
    cases h
  | succ n ih =>
    intro a0 a1 a2 a3 M hB h
    rw [fX16_sayNumber_L2] at h
    by_cases hz : a3 = 0
    · rw [if_pos hz] at h; cases h
    have h := (if_neg hz).symm.trans h
    by_cases hc : (a2 / a3) < (10 : Int32)
    · have h := (if_pos hc).symm.trans h
      exact dX16_sayNumber_L21 fu   fu a0 a1 a2 a3 M hB h
    · have h := (if_neg hc).symm.trans h
      exact ih a0 a1 a2 (a3 * (10 : Int32)) M hB h
theorem dX16_sayNumber (fu : Nat) {dn : Nat} {out : Mm}   (a0 : Nat) (a1 : Option Nat) (a2 : Int32)  (M : Mm) (hB : DP dn M) (h : fX16_sayNumber fu  a0 a1 a2 M = some out) : DP dn out := by
  unfold fX16_sayNumber at h
  exact dX16_sayNumber_L2 fu   fu a0 a1 a2 (1 : Int32) M hB h
theorem dX16_phrase (fu : Nat) {dn : Nat} {out : Option Nat × Mm}   (a0 : Int32)  (M : Mm) (hB : DP dn M) (h : fX16_phrase fu  a0 M = some out) : DP dn out.2 := by
  unfold fX16_phrase at h
  by_cases hc0 : a0 = (200 : Int32)
  · have h := (if_pos hc0).symm.trans h
    obtain rfl := Option.some.inj h
    exact hB
  have h := (if_neg hc0).symm.trans h
  by_cases hc1 : a0 = (304 : Int32)
  · have h := (if_pos hc1).symm.trans h
    obtain rfl := Option.some.inj h
    exact hB
  have h := (if_neg hc1).symm.trans h
  by_cases hc2 : a0 = (400 : Int32)
  · have h := (if_pos hc2).symm.trans h
    obtain rfl := Option.some.inj h
    exact hB
  have h := (if_neg hc2).symm.trans h
  by_cases hc3 : a0 = (404 : Int32)
  · have h := (if_pos hc3).symm.trans h
    obtain rfl := Option.some.inj h
    exact hB
  have h := (if_neg hc3).symm.trans h
  by_cases hc4 : a0 = (405 : Int32)
  · have h := (if_pos hc4).symm.trans h
    obtain rfl := Option.some.inj h
    exact hB
  have h := (if_neg hc4).symm.trans h
  by_cases hc5 : a0 = (413 : Int32)
  · have h := (if_pos hc5).symm.trans h
    obtain rfl := Option.some.inj h
    exact hB
  have h := (if_neg hc5).symm.trans h
  by_cases hc6 : a0 = (431 : Int32)
  · have h := (if_pos hc6).symm.trans h
    obtain rfl := Option.some.inj h
    exact hB
  have h := (if_neg hc6).symm.trans h
  by_cases hc7 : a0 = (500 : Int32)
  · have h := (if_pos hc7).symm.trans h
    obtain rfl := Option.some.inj h
    exact hB
  have h := (if_neg hc7).symm.trans h
  obtain rfl := Option.some.inj h
  exact hB
theorem dX16_line (fu : Nat) {dn : Nat} {out : Mm}   (a0 : Nat) (a1 : Option Nat)  (M : Mm) (hB : DP dn M) (h : fX16_line fu  a0 a1 M = some out) : DP dn out := by
  unfold fX16_line at h
  obtain ⟨q1, eq1, h⟩ := bd h
  obtain ⟨M2, eM2, h⟩ := bd h
  have hB := dX16_code fu q1 a1 (13 : Int32) M hB eM2
  obtain ⟨q3, eq3, h⟩ := bd h
  obtain ⟨M4, eM4, h⟩ := bd h
  have hB := dX16_code fu q3 a1 (10 : Int32) M2 hB eM4
  obtain rfl := Option.some.inj h
  exact hB
theorem dX16_endsWith_L41 (fu : Nat) {dn : Nat} {out : Int32 × Mm}   : ∀ (n : Nat) (a0 : Nat) (a1 : Int32) (a2 : Option Nat) (a3 : Int32) (a4 : Int32)  (M : Mm), DP dn M → fX16_endsWith_L41 fu  n a0 a1 a2 a3 a4 M = some out → DP dn out.2 := by
  intro n
  induction n with
  | zero =>
    intro a0 a1 a2 a3 a4 M hB h
    have h : (none : Option (Int32 × Mm)) = some out := h
    cases h
  | succ n ih =>
    intro a0 a1 a2 a3 a4 M hB h
    rw [fX16_endsWith_L41] at h
    obtain ⟨q1, eq1, h⟩ := bd h
    obtain ⟨v3, M2, eM2, h⟩ := b2d h
    have hB := dJ0_length_8abf5 fu q1  M hB eM2
    by_cases hc : v3 ≤ a4
    · have h := (if_pos hc).symm.trans h
      obtain ⟨hz, rfl⟩ := rN_some h
      exact hB
    · have h := (if_neg hc).symm.trans h
      obtain ⟨v4, ev4, h⟩ := bd h
      obtain ⟨q5, eq5, h⟩ := bd h
      obtain ⟨v7, M6, eM6, h⟩ := b2d h
      have hB := dJ0_length_8abf5 fu q5  M2 hB eM6
      obtain ⟨v8, ev8, h⟩ := bd h
      obtain ⟨q9, eq9, h⟩ := bd h
      obtain ⟨v11, M10, eM10, h⟩ := b2d h
      have hB := dJ0_charAt_5068e fu q9 a4 M6 hB eM10
      by_cases hc : v8 = v11
      · have h := (if_pos hc).symm.trans h
        exact ih a0 a1 a2 a3 (a4 + (1 : Int32)) M10 hB h
      · have h := (if_neg hc).symm.trans h
        obtain ⟨hz, rfl⟩ := rN_some h
        exact hB
theorem dX16_endsWith_L28 (fu : Nat) {dn : Nat} {out : Int32 × Mm}   (a0 : Nat) (a1 : Int32) (a2 : Option Nat) (a3 : Int32)  (M : Mm) (hB : DP dn M) (h : fX16_endsWith_L28 fu  a0 a1 a2 a3 M = some out) : DP dn out.2 := by
  unfold fX16_endsWith_L28 at h
  obtain ⟨q1, eq1, h⟩ := bd h
  obtain ⟨v3, M2, eM2, h⟩ := b2d h
  have hB := dJ0_length_8abf5 fu q1  M hB eM2
  by_cases hc : v3 ≤ a3
  · have h := (if_pos hc).symm.trans h
    exact dX16_endsWith_L41 fu   fu a0 a1 a2 a3 (0 : Int32) M2 hB h
  · have h := (if_neg hc).symm.trans h
    obtain ⟨hz, rfl⟩ := rN_some h
    exact hB
theorem dX16_endsWith_L2 (fu : Nat) {dn : Nat} {out : Int32 × Mm}   : ∀ (n : Nat) (a0 : Nat) (a1 : Int32) (a2 : Option Nat) (a3 : Int32)  (M : Mm), DP dn M → fX16_endsWith_L2 fu  n a0 a1 a2 a3 M = some out → DP dn out.2 := by
  intro n
  induction n with
  | zero =>
    intro a0 a1 a2 a3 M hB h
    have h : (none : Option (Int32 × Mm)) = some out := h
    cases h
  | succ n ih =>
    intro a0 a1 a2 a3 M hB h
    rw [fX16_endsWith_L2] at h
    by_cases hc : (48 : Int32) ≤ a3
    · have h := (if_pos hc).symm.trans h
      exact dX16_endsWith_L28 fu    a0 a1 a2 a3 M hB h
    · have h := (if_neg hc).symm.trans h
      obtain ⟨v1, ev1, h⟩ := bd h
      obtain ⟨v2, ev2, h⟩ := bd h
      by_cases hc : v2 = 0
      · have h := (if_pos hc).symm.trans h
        exact dX16_endsWith_L28 fu    a0 a1 a2 a3 M hB h
      · have h := (if_neg hc).symm.trans h
        exact ih a0 a1 a2 (a3 + (1 : Int32)) M hB h
theorem dX16_endsWith (fu : Nat) {dn : Nat} {out : Int32 × Mm}   (a0 : Nat) (a1 : Int32) (a2 : Option Nat)  (M : Mm) (hB : DP dn M) (h : fX16_endsWith fu  a0 a1 a2 M = some out) : DP dn out.2 := by
  unfold fX16_endsWith at h
  exact dX16_endsWith_L2 fu   fu a0 a1 a2 (0 : Int32) M hB h
theorem dX16_type (fu : Nat) {dn : Nat} {out : Option Nat × Mm}   (a0 : Nat) (a1 : Int32)  (M : Mm) (hB : DP dn M) (h : fX16_type fu  a0 a1 M = some out) : DP dn out.2 := by
  unfold fX16_type at h
  by_cases hc : a1 < 0
  · have h := (if_pos hc).symm.trans h
    obtain rfl := Option.some.inj h
    exact hB
  · have h := (if_neg hc).symm.trans h
    obtain ⟨q1, eq1, h⟩ := bd h
    obtain ⟨v3, M2, eM2, h⟩ := b2d h
    have hB := dX16_endsWith fu q1 a1 (some 33) M hB eM2
    by_cases hc : v3 = 0
    · have h := (if_pos hc).symm.trans h
      obtain ⟨q4, eq4, h⟩ := bd h
      obtain ⟨v6, M5, eM5, h⟩ := b2d h
      have hB := dX16_endsWith fu q4 a1 (some 27) M2 hB eM5
      by_cases hc : v6 = 0
      · have h := (if_pos hc).symm.trans h
        obtain ⟨q7, eq7, h⟩ := bd h
        obtain ⟨v9, M8, eM8, h⟩ := b2d h
        have hB := dX16_endsWith fu q7 a1 (some 29) M5 hB eM8
        by_cases hc : v9 = 0
        · have h := (if_pos hc).symm.trans h
          obtain ⟨q10, eq10, h⟩ := bd h
          obtain ⟨v12, M11, eM11, h⟩ := b2d h
          have hB := dX16_endsWith fu q10 a1 (some 31) M8 hB eM11
          by_cases hc : v12 = 0
          · have h := (if_pos hc).symm.trans h
            obtain ⟨q13, eq13, h⟩ := bd h
            obtain ⟨v15, M14, eM14, h⟩ := b2d h
            have hB := dX16_endsWith fu q13 a1 (some 35) M11 hB eM14
            by_cases hc : v15 = 0
            · have h := (if_pos hc).symm.trans h
              obtain rfl := Option.some.inj h
              exact hB
            · have h := (if_neg hc).symm.trans h
              obtain rfl := Option.some.inj h
              exact hB
          · have h := (if_neg hc).symm.trans h
            obtain rfl := Option.some.inj h
            exact hB
        · have h := (if_neg hc).symm.trans h
          obtain rfl := Option.some.inj h
          exact hB
      · have h := (if_neg hc).symm.trans h
        obtain rfl := Option.some.inj h
        exact hB
    · have h := (if_neg hc).symm.trans h
      obtain rfl := Option.some.inj h
      exact hB
theorem dX16_make_L308 (fu : Nat) {dn : Nat} {out : Mm}   (a0 : Nat) (a1 : Option Nat) (a2 : Int32) (a5 : Int32) (s0 : Option Nat) (s1 : Int32) (M : Mm) (hB : DP dn M) (h : fX16_make_L308 fu  a0 a1 a2 a5 s0 s1 M = some out) : DP dn out := by
  unfold fX16_make_L308 at h
  obtain ⟨M1, eM1, h⟩ := bd h
  have hB := d_pF hB eM1 (by decide)
  by_cases hc : a5 = 0
  · have h := (if_pos hc).symm.trans h
    obtain rfl := Option.some.inj h
    exact hB
  · have h := (if_neg hc).symm.trans h
    by_cases hc : 0 ≤ a2
    · have h := (if_pos hc).symm.trans h
      obtain rfl := Option.some.inj h
      exact hB
    · have h := (if_neg hc).symm.trans h
      obtain ⟨v2, ev2, h⟩ := bd h
      obtain ⟨q3, eq3, h⟩ := bd h
      obtain ⟨M4, eM4, h⟩ := bd h
      have hB := dX16_sayNumber fu q3 a1 v2 M1 hB eM4
      obtain ⟨q5, eq5, h⟩ := bd h
      obtain ⟨M6, eM6, h⟩ := bd h
      have hB := dX16_code fu q5 a1 (32 : Int32) M4 hB eM6
      obtain ⟨v7, ev7, h⟩ := bd h
      obtain ⟨v9, M8, eM8, h⟩ := b2d h
      have hB := dX16_phrase fu  v7 M6 hB eM8
      obtain ⟨q10, eq10, h⟩ := bd h
      obtain ⟨M11, eM11, h⟩ := bd h
      have hB := dX16_say fu q10 a1 v9 M8 hB eM11
      obtain ⟨q12, eq12, h⟩ := bd h
      obtain ⟨M13, eM13, h⟩ := bd h
      have hB := dX16_code fu q12 a1 (10 : Int32) M11 hB eM13
      obtain rfl := Option.some.inj h
      exact hB
theorem dX16_make_L307 (fu : Nat) {dn : Nat} {out : Mm}   (a0 : Nat) (a1 : Option Nat) (a2 : Int32) (a5 : Int32) (s0 : Option Nat) (M : Mm) (hB : DP dn M) (h : fX16_make_L307 fu  a0 a1 a2 a5 s0 M = some out) : DP dn out := by
  unfold fX16_make_L307 at h
  exact dX16_make_L308 fu    a0 a1 a2 a5 s0 (0 : Int32) M hB h
theorem dX16_make_L289 (fu : Nat) {dn : Nat} {out : Mm}   (a0 : Nat) (a1 : Option Nat) (a2 : Int32) (a4 : Int32) (a5 : Int32) (s0 : Option Nat) (s1 : Int32) (M : Mm) (hB : DP dn M) (h : fX16_make_L289 fu  a0 a1 a2 a4 a5 s0 s1 M = some out) : DP dn out := by
  unfold fX16_make_L289 at h
  obtain ⟨M1, eM1, h⟩ := bd h
  have hB := d_pF hB eM1 (by decide)
  by_cases hc : a5 = 0
  · have h := (if_pos hc).symm.trans h
    exact dX16_make_L307 fu    a0 a1 a2 a5 a1 M1 hB h
  · have h := (if_neg hc).symm.trans h
    by_cases hc : a2 < 0
    · have h := (if_pos hc).symm.trans h
      exact dX16_make_L307 fu    a0 a1 a2 a5 a1 M1 hB h
    · have h := (if_neg hc).symm.trans h
      exact dX16_make_L308 fu    a0 a1 a2 a5 a1 a4 M1 hB h
theorem dX16_make_L272 (fu : Nat) {dn : Nat} {out : Mm}   (a0 : Nat) (a1 : Option Nat) (a2 : Int32) (a4 : Int32) (s0 : Int32) (M : Mm) (hB : DP dn M) (h : fX16_make_L272 fu  a0 a1 a2 a4 s0 M = some out) : DP dn out := by
  unfold fX16_make_L272 at h
  by_cases hc : a2 < 0
  · have h := (if_pos hc).symm.trans h
    exact dX16_make_L289 fu    a0 a1 a2 a4 s0 a1 (0 : Int32) M hB h
  · have h := (if_neg hc).symm.trans h
    obtain ⟨v1, ev1, h⟩ := bd h
    obtain ⟨v2, ev2, h⟩ := bd h
    exact dX16_make_L289 fu    a0 a1 a2 a4 s0 a1 v2 M hB h
theorem dX16_make_L271 (fu : Nat) {dn : Nat} {out : Mm}   (a0 : Nat) (a1 : Option Nat) (a2 : Int32) (a4 : Int32)  (M : Mm) (hB : DP dn M) (h : fX16_make_L271 fu  a0 a1 a2 a4 M = some out) : DP dn out := by
  unfold fX16_make_L271 at h
  exact dX16_make_L272 fu    a0 a1 a2 a4 (0 : Int32) M hB h
theorem dX16_make_L245 (fu : Nat) {dn : Nat} {out : Mm}   (a0 : Nat) (a1 : Option Nat) (a2 : Int32) (a4 : Int32)  (M : Mm) (hB : DP dn M) (h : fX16_make_L245 fu  a0 a1 a2 a4 M = some out) : DP dn out := by
  unfold fX16_make_L245 at h
  obtain ⟨q1, eq1, h⟩ := bd h
  obtain ⟨M2, eM2, h⟩ := bd h
  have hB := dX16_line fu q1 a1 M hB eM2
  obtain ⟨v3, ev3, h⟩ := bd h
  by_cases hc : v3 = 0
  · have h := (if_pos hc).symm.trans h
    obtain ⟨v4, ev4, h⟩ := bd h
    by_cases hc : v4 = (304 : Int32)
    · have h := (if_pos hc).symm.trans h
      exact dX16_make_L271 fu    a0 a1 a2 a4 M2 hB h
    · have h := (if_neg hc).symm.trans h
      exact dX16_make_L272 fu    a0 a1 a2 a4 (1 : Int32) M2 hB h
  · have h := (if_neg hc).symm.trans h
    exact dX16_make_L271 fu    a0 a1 a2 a4 M2 hB h
theorem dX16_make_L228 (fu : Nat) {dn : Nat} {out : Mm}   (a0 : Nat) (a1 : Option Nat) (a2 : Int32) (a3 : Int32) (a4 : Int32)  (M : Mm) (hB : DP dn M) (h : fX16_make_L228 fu  a0 a1 a2 a3 a4 M = some out) : DP dn out := by
  unfold fX16_make_L228 at h
  by_cases hc : a3 = 0
  · have h := (if_pos hc).symm.trans h
    exact dX16_make_L245 fu    a0 a1 a2 a4 M hB h
  · have h := (if_neg hc).symm.trans h
    obtain ⟨q1, eq1, h⟩ := bd h
    obtain ⟨M2, eM2, h⟩ := bd h
    have hB := dX16_say fu q1 a1 (some 49) M hB eM2
    obtain ⟨q3, eq3, h⟩ := bd h
    obtain ⟨M4, eM4, h⟩ := bd h
    have hB := dX16_line fu q3 a1 M2 hB eM4
    exact dX16_make_L245 fu    a0 a1 a2 a4 M4 hB h
theorem dX16_make_L205 (fu : Nat) {dn : Nat} {out : Mm}   (a0 : Nat) (a1 : Option Nat) (a2 : Int32) (a3 : Int32) (a4 : Int32)  (M : Mm) (hB : DP dn M) (h : fX16_make_L205 fu  a0 a1 a2 a3 a4 M = some out) : DP dn out := by
  unfold fX16_make_L205 at h
  obtain ⟨v1, ev1, h⟩ := bd h
  by_cases hc : v1 = (405 : Int32)
  · have h := (if_pos hc).symm.trans h
    obtain ⟨q2, eq2, h⟩ := bd h
    obtain ⟨M3, eM3, h⟩ := bd h
    have hB := dX16_say fu q2 a1 (some 48) M hB eM3
    obtain ⟨q4, eq4, h⟩ := bd h
    obtain ⟨M5, eM5, h⟩ := bd h
    have hB := dX16_line fu q4 a1 M3 hB eM5
    exact dX16_make_L228 fu    a0 a1 a2 a3 a4 M5 hB h
  · have h := (if_neg hc).symm.trans h
    exact dX16_make_L228 fu    a0 a1 a2 a3 a4 M hB h
theorem dX16_make_L164 (fu : Nat) {dn : Nat} {out : Mm}   : ∀ (n : Nat) (a0 : Nat) (a1 : Option Nat) (a2 : Int32) (a3 : Int32) (a4 : Int32) (a5 : Int32)  (M : Mm), DP dn M → fX16_make_L164 fu  n a0 a1 a2 a3 a4 a5 M = some out → DP dn out := by
  intro n
  induction n with
  | zero =>
    intro a0 a1 a2 a3 a4 a5 M hB h
    have h : (none : Option (Mm)) = some out := h
    cases h
  | succ n ih =>
    intro a0 a1 a2 a3 a4 a5 M hB h
    rw [fX16_make_L164] at h
    by_cases hc : (8 : Int32) ≤ a5
    · have h := (if_pos hc).symm.trans h
      obtain ⟨q1, eq1, h⟩ := bd h
      obtain ⟨M2, eM2, h⟩ := bd h
      have hB := dX16_code fu q1 a1 (34 : Int32) M hB eM2
      obtain ⟨q3, eq3, h⟩ := bd h
      obtain ⟨M4, eM4, h⟩ := bd h
      have hB := dX16_line fu q3 a1 M2 hB eM4
      exact dX16_make_L205 fu    a0 a1 a2 a3 a4 M4 hB h
    · have h := (if_neg hc).symm.trans h
      obtain ⟨v5, ev5, h⟩ := bd h
      obtain ⟨v6, ev6, h⟩ := bd h
      obtain ⟨v8, M7, eM7, h⟩ := b2d h
      have hB := dX16_hexDigit fu  v6 a5 M hB eM7
      obtain ⟨q9, eq9, h⟩ := bd h
      obtain ⟨M10, eM10, h⟩ := bd h
      have hB := dX16_code fu q9 a1 v8 M7 hB eM10
      exact ih a0 a1 a2 a3 a4 (a5 + (1 : Int32)) M10 hB h
theorem dX16_make_L149 (fu : Nat) {dn : Nat} {out : Mm}   (a0 : Nat) (a1 : Option Nat) (a2 : Int32) (a3 : Int32) (a4 : Int32)  (M : Mm) (hB : DP dn M) (h : fX16_make_L149 fu  a0 a1 a2 a3 a4 M = some out) : DP dn out := by
  unfold fX16_make_L149 at h
  by_cases hc : a2 < 0
  · have h := (if_pos hc).symm.trans h
    exact dX16_make_L205 fu    a0 a1 a2 a3 a4 M hB h
  · have h := (if_neg hc).symm.trans h
    obtain ⟨q1, eq1, h⟩ := bd h
    obtain ⟨M2, eM2, h⟩ := bd h
    have hB := dX16_say fu q1 a1 (some 47) M hB eM2
    exact dX16_make_L164 fu   fu a0 a1 a2 a3 a4 (0 : Int32) M2 hB h
theorem dX16_make_L94 (fu : Nat) {dn : Nat} {out : Mm}   (a0 : Nat) (a1 : Option Nat) (a2 : Int32) (a3 : Int32) (s0 : Int32) (M : Mm) (hB : DP dn M) (h : fX16_make_L94 fu  a0 a1 a2 a3 s0 M = some out) : DP dn out := by
  unfold fX16_make_L94 at h
  obtain ⟨v1, ev1, h⟩ := bd h
  by_cases hc : v1 = (304 : Int32)
  · have h := (if_pos hc).symm.trans h
    exact dX16_make_L149 fu    a0 a1 a2 a3 s0 M hB h
  · have h := (if_neg hc).symm.trans h
    obtain ⟨q2, eq2, h⟩ := bd h
    obtain ⟨M3, eM3, h⟩ := bd h
    have hB := dX16_say fu q2 a1 (some 45) M hB eM3
    obtain ⟨q4, eq4, h⟩ := bd h
    obtain ⟨M5, eM5, h⟩ := bd h
    have hB := dX16_sayNumber fu q4 a1 s0 M3 hB eM5
    obtain ⟨q6, eq6, h⟩ := bd h
    obtain ⟨M7, eM7, h⟩ := bd h
    have hB := dX16_line fu q6 a1 M5 hB eM7
    obtain ⟨q8, eq8, h⟩ := bd h
    obtain ⟨M9, eM9, h⟩ := bd h
    have hB := dX16_say fu q8 a1 (some 46) M7 hB eM9
    obtain ⟨q10, eq10, h⟩ := bd h
    obtain ⟨v12, M11, eM11, h⟩ := b2d h
    have hB := dX16_type fu q10 a2 M9 hB eM11
    obtain ⟨q13, eq13, h⟩ := bd h
    obtain ⟨M14, eM14, h⟩ := bd h
    have hB := dX16_say fu q13 a1 v12 M11 hB eM14
    obtain ⟨q15, eq15, h⟩ := bd h
    obtain ⟨M16, eM16, h⟩ := bd h
    have hB := dX16_line fu q15 a1 M14 hB eM16
    exact dX16_make_L149 fu    a0 a1 a2 a3 s0 M16 hB h
theorem dX16_make (fu : Nat) {dn : Nat} {out : Mm}   (a0 : Nat) (a1 : Option Nat) (a2 : Int32) (a3 : Int32)  (M : Mm) (hB : DP dn M) (h : fX16_make fu  a0 a1 a2 a3 M = some out) : DP dn out := by
  unfold fX16_make at h
  obtain ⟨v1, ev1, h⟩ := bd h
  obtain ⟨v2, ev2, h⟩ := bd h
  obtain ⟨M3, eM3, h⟩ := bd h
  have hB := d_pA hB eM3
  obtain ⟨v4, ev4, h⟩ := bd h
  obtain ⟨M5, eM5, h⟩ := bd h
  have hB := d_pF hB eM5 (by decide)
  obtain ⟨M6, eM6, h⟩ := bd h
  have hB := d_pF hB eM6 (by decide)
  obtain ⟨M7, eM7, h⟩ := bd h
  have hB := d_pZ hB eM7 (by decide)
  obtain ⟨q8, eq8, h⟩ := bd h
  obtain ⟨M9, eM9, h⟩ := bd h
  have hB := dX16_say fu q8 a1 (some 23) M7 hB eM9
  obtain ⟨v10, ev10, h⟩ := bd h
  obtain ⟨q11, eq11, h⟩ := bd h
  obtain ⟨M12, eM12, h⟩ := bd h
  have hB := dX16_sayNumber fu q11 a1 v10 M9 hB eM12
  obtain ⟨q13, eq13, h⟩ := bd h
  obtain ⟨M14, eM14, h⟩ := bd h
  have hB := dX16_code fu q13 a1 (32 : Int32) M12 hB eM14
  obtain ⟨v15, ev15, h⟩ := bd h
  obtain ⟨v17, M16, eM16, h⟩ := b2d h
  have hB := dX16_phrase fu  v15 M14 hB eM16
  obtain ⟨q18, eq18, h⟩ := bd h
  obtain ⟨M19, eM19, h⟩ := bd h
  have hB := dX16_say fu q18 a1 v17 M16 hB eM19
  obtain ⟨q20, eq20, h⟩ := bd h
  obtain ⟨M21, eM21, h⟩ := bd h
  have hB := dX16_line fu q20 a1 M19 hB eM21
  by_cases hc : a2 < 0
  · have h := (if_pos hc).symm.trans h
    obtain ⟨v22, ev22, h⟩ := bd h
    obtain ⟨v24, M23, eM23, h⟩ := b2d h
    have hB := dX16_phrase fu  v22 M21 hB eM23
    obtain ⟨q25, eq25, h⟩ := bd h
    obtain ⟨v27, M26, eM26, h⟩ := b2d h
    have hB := dJ0_length_8abf5 fu q25  M23 hB eM26
    exact dX16_make_L94 fu    a0 a1 a2 a3 ((5 : Int32) + v27) M26 hB h
  · have h := (if_neg hc).symm.trans h
    obtain ⟨v28, ev28, h⟩ := bd h
    obtain ⟨v29, ev29, h⟩ := bd h
    exact dX16_make_L94 fu    a0 a1 a2 a3 v29 M21 hB h
