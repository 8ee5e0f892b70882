/-! ===== what no function but alone changes, printed by a program of ours ===== -/
theorem zJ0_coder_7d493 (fu : Nat)   (a0 : Nat)  (M : Mm) {out : Int32 × Mm} (hB : RW M)  (h : fJ0_coder_7d493 fu  a0 M = some out) : Zq M out.2 ∧ RW out.2 := by
  unfold fJ0_coder_7d493 at h
  have hS : Zq M M := Zq.rf
  by_cases hc : (1 : Int32) = 0
  · have h := (if_pos hc).symm.trans h
    obtain ⟨hz, rfl⟩ := rN_some h
    exact ⟨hS, hB⟩
  · have h := (if_neg hc).symm.trans h
    obtain ⟨v1, ev1, h⟩ := bd h
    obtain ⟨hz, rfl⟩ := rN_some h
    exact ⟨hS, hB⟩
theorem zJ0_length_8abf5 (fu : Nat)   (a0 : Nat)  (M : Mm) {out : Int32 × Mm} (hB : RW M)  (h : fJ0_length_8abf5 fu  a0 M = some out) : Zq M out.2 ∧ RW out.2 := by
  unfold fJ0_length_8abf5 at h
  have hS : Zq M M := Zq.rf
  obtain ⟨v1, ev1, h⟩ := bd h
  obtain ⟨v2, ev2, h⟩ := bd h
  obtain ⟨q3, eq3, h⟩ := bd h
  obtain ⟨v5, M4, eM4, h⟩ := b2d h
  have w := zJ0_coder_7d493 fu q3  M hB  eM4
  have hS := hS.tr w.1
  have hB := w.2
  obtain rfl := Option.some.inj h
  exact ⟨hS, hB⟩
theorem zJ0_isLatin1_aae02 (fu : Nat)   (a0 : Nat)  (M : Mm) {out : Int32 × Mm} (hB : RW M)  (h : fJ0_isLatin1_aae02 fu  a0 M = some out) : Zq M out.2 ∧ RW out.2 := by
  unfold fJ0_isLatin1_aae02 at h
  have hS : Zq M M := Zq.rf
  by_cases hc : (1 : Int32) = 0
  · have h := (if_pos hc).symm.trans h
    obtain ⟨hz, rfl⟩ := rN_some h
    exact ⟨hS, hB⟩
  · have h := (if_neg hc).symm.trans h
    obtain ⟨v1, ev1, h⟩ := bd h
    by_cases hc : v1 = 0
    · have h := (if_pos hc).symm.trans h
      obtain ⟨hz, rfl⟩ := rN_some h
      exact ⟨hS, hB⟩
    · have h := (if_neg hc).symm.trans h
      obtain ⟨hz, rfl⟩ := rN_some h
      exact ⟨hS, hB⟩
theorem zJ3_checkIndex_8e157_L9 (fu : Nat)   (a0 : Int32) (a1 : Int32) (a2 : Option Nat)  (M : Mm) {out : Int32 × Mm} (hB : RW M)  (h : fJ3_checkIndex_8e157_L9 fu  a0 a1 a2 M = some out) : Zq M out.2 ∧ RW out.2 := by
  unfold fJ3_checkIndex_8e157_L9 at h
  have hS : Zq M M := Zq.rf
  cases h
theorem zJ3_checkIndex_8e157 (fu : Nat)   (a0 : Int32) (a1 : Int32) (a2 : Option Nat)  (M : Mm) {out : Int32 × Mm} (hB : RW M)  (h : fJ3_checkIndex_8e157 fu  a0 a1 a2 M = some out) : Zq M out.2 ∧ RW out.2 := by
  unfold fJ3_checkIndex_8e157 at h
  have hS : Zq M M := Zq.rf
  by_cases hc : a0 < 0
  · have h := (if_pos hc).symm.trans h
    have z := zJ3_checkIndex_8e157_L9 fu   a0 a1 a2 M hB  h
    exact ⟨hS.tr z.1, z.2⟩
  · have h := (if_neg hc).symm.trans h
    by_cases hc : a0 < a1
    · have h := (if_pos hc).symm.trans h
      obtain rfl := Option.some.inj h
      exact ⟨hS, hB⟩
    · have h := (if_neg hc).symm.trans h
      have z := zJ3_checkIndex_8e157_L9 fu   a0 a1 a2 M hB  h
      exact ⟨hS.tr z.1, z.2⟩
theorem zJ0_checkIndex_df160 (fu : Nat)   (a0 : Int32) (a1 : Int32)  (M : Mm) {out : Mm} (hB : RW M)  (h : fJ0_checkIndex_df160 fu  a0 a1 M = some out) : Zq M out ∧ RW out := by
  unfold fJ0_checkIndex_df160 at h
  have hS : Zq M M := Zq.rf
  obtain ⟨v2, M1, eM1, h⟩ := b2d h
  have w := zJ3_checkIndex_8e157 fu  a0 a1 none M hB  eM1
  have hS := hS.tr w.1
  have hB := w.2
  obtain rfl := Option.some.inj h
  exact ⟨hS, hB⟩
theorem zJ1_charAt_3b067 (fu : Nat)   (a0 : Option Nat) (a1 : Int32)  (M : Mm) {out : Int32 × Mm} (hB : RW M)  (h : fJ1_charAt_3b067 fu  a0 a1 M = some out) : Zq M out.2 ∧ RW out.2 := by
  unfold fJ1_charAt_3b067 at h
  have hS : Zq M M := Zq.rf
  obtain ⟨v1, ev1, h⟩ := bd h
  obtain ⟨M2, eM2, h⟩ := bd h
  have w := zJ0_checkIndex_df160 fu  a1 v1 M hB  eM2
  have hS := hS.tr w.1
  have hB := w.2
  obtain ⟨v3, ev3, h⟩ := bd h
  obtain ⟨hz, rfl⟩ := rN_some h
  exact ⟨hS, hB⟩
theorem zJ2_length_9d52b (fu : Nat)   (a0 : Option Nat)  (M : Mm) {out : Int32 × Mm} (hB : RW M)  (h : fJ2_length_9d52b fu  a0 M = some out) : Zq M out.2 ∧ RW out.2 := by
  unfold fJ2_length_9d52b at h
  have hS : Zq M M := Zq.rf
  obtain ⟨v1, ev1, h⟩ := bd h
  obtain rfl := Option.some.inj h
  exact ⟨hS, hB⟩
theorem zJ2_checkIndex_2214a (fu : Nat)   (a0 : Int32) (a1 : Option Nat)  (M : Mm) {out : Mm} (hB : RW M)  (h : fJ2_checkIndex_2214a fu  a0 a1 M = some out) : Zq M out ∧ RW out := by
  unfold fJ2_checkIndex_2214a at h
  have hS : Zq M M := Zq.rf
  obtain ⟨v2, M1, eM1, h⟩ := b2d h
  have w := zJ2_length_9d52b fu  a1 M hB  eM1
  have hS := hS.tr w.1
  have hB := w.2
  obtain ⟨M3, eM3, h⟩ := bd h
  have w := zJ0_checkIndex_df160 fu  a0 v2 M1 hB  eM3
  have hS := hS.tr w.1
  have hB := w.2
  obtain rfl := Option.some.inj h
  exact ⟨hS, hB⟩
theorem zJ2_charAt_3b067 (fu : Nat)   (a0 : Option Nat) (a1 : Int32)  (M : Mm) {out : Int32 × Mm} (hB : RW M)  (h : fJ2_charAt_3b067 fu  a0 a1 M = some out) : Zq M out.2 ∧ RW out.2 := by
  unfold fJ2_charAt_3b067 at h
  have hS : Zq M M := Zq.rf
  obtain ⟨M1, eM1, h⟩ := bd h
  have w := zJ2_checkIndex_2214a fu  a1 a0 M hB  eM1
  have hS := hS.tr w.1
  have hB := w.2
  cases h
theorem zJ0_charAt_5068e (fu : Nat)   (a0 : Nat) (a1 : Int32)  (M : Mm) {out : Int32 × Mm} (hB : RW M)  (h : fJ0_charAt_5068e fu  a0 a1 M = some out) : Zq M out.2 ∧ RW out.2 := by
  unfold fJ0_charAt_5068e at h
  have hS : Zq M M := Zq.rf
  obtain ⟨q1, eq1, h⟩ := bd h
  obtain ⟨v3, M2, eM2, h⟩ := b2d h
  have w := zJ0_isLatin1_aae02 fu q1  M hB  eM2
  have hS := hS.tr w.1
  have hB := w.2
  by_cases hc : v3 = 0
  · have h := (if_pos hc).symm.trans h
    obtain ⟨v4, ev4, h⟩ := bd h
    obtain ⟨v6, M5, eM5, h⟩ := b2d h
    have w := zJ2_charAt_3b067 fu  v4 a1 M2 hB  eM5
    have hS := hS.tr w.1
    have hB := w.2
    obtain ⟨hz, rfl⟩ := rN_some h
    exact ⟨hS, hB⟩
  · have h := (if_neg hc).symm.trans h
    obtain ⟨v7, ev7, h⟩ := bd h
    obtain ⟨v9, M8, eM8, h⟩ := b2d h
    have w := zJ1_charAt_3b067 fu  v7 a1 M2 hB  eM8
    have hS := hS.tr w.1
    have hB := w.2
    obtain ⟨hz, rfl⟩ := rN_some h
    exact ⟨hS, hB⟩
theorem zJ1_canEncode_9a6ad (fu : Nat)   (a0 : Int32)  (M : Mm) {out : Int32 × Mm} (hB : RW M)  (h : fJ1_canEncode_9a6ad fu  a0 M = some out) : Zq M out.2 ∧ RW out.2 := by
  unfold fJ1_canEncode_9a6ad at h
  have hS : Zq M M := Zq.rf
  by_cases hc : a0 < 0
  · have h := (if_pos hc).symm.trans h
    obtain ⟨hz, rfl⟩ := rN_some h
    exact ⟨hS, hB⟩
  · have h := (if_neg hc).symm.trans h
    by_cases hc : (255 : Int32) < a0
    · have h := (if_pos hc).symm.trans h
      obtain ⟨hz, rfl⟩ := rN_some h
      exact ⟨hS, hB⟩
    · have h := (if_neg hc).symm.trans h
      obtain ⟨hz, rfl⟩ := rN_some h
      exact ⟨hS, hB⟩
theorem zJ1_indexOfChar_4cfef_L7 (fu : Nat) {out : Int32 × Mm}   : ∀ (n : Nat) (a0 : Option Nat) (a3 : Int32) (a4 : Int32) (a5 : Int32)  (M : Mm), RW M → fJ1_indexOfChar_4cfef_L7 fu  n a0 a3 a4 a5 M = some out → Zq M out.2 ∧ RW out.2 := by
  intro n
  induction n with
  | zero =>
    intro a0 a3 a4 a5 M hB  h
    have h : (none : Option (Int32 × Mm)) = some out := h
    cases h
  | succ n ih =>
    intro a0 a3 a4 a5 M hB  h
    rw [fJ1_indexOfChar_4cfef_L7] at h
    have hS : Zq M M := Zq.rf
    by_cases hc : a3 ≤ a5
    · have h := (if_pos hc).symm.trans h
      obtain rfl := Option.some.inj h
      exact ⟨hS, hB⟩
    · have h := (if_neg hc).symm.trans h
      obtain ⟨v1, ev1, h⟩ := bd h
      by_cases hc : v1 = a4
      · have h := (if_pos hc).symm.trans h
        obtain rfl := Option.some.inj h
        exact ⟨hS, hB⟩
      · have h := (if_neg hc).symm.trans h
        have z := ih a0 a3 a4 (a5 + (1 : Int32)) M hB  h
        exact ⟨hS.tr z.1, z.2⟩
theorem zJ1_indexOfChar_4cfef (fu : Nat)   (a0 : Option Nat) (a1 : Int32) (a2 : Int32) (a3 : Int32)  (M : Mm) {out : Int32 × Mm} (hB : RW M)  (h : fJ1_indexOfChar_4cfef fu  a0 a1 a2 a3 M = some out) : Zq M out.2 ∧ RW out.2 := by
  unfold fJ1_indexOfChar_4cfef at h
  have hS : Zq M M := Zq.rf
  have z := zJ1_indexOfChar_4cfef_L7 fu   fu a0 a3 (Int8.toInt32 (Int32.toInt8 a1)) a2 M hB  h
  exact ⟨hS.tr z.1, z.2⟩
theorem zJ1_indexOf_4cfef (fu : Nat)   (a0 : Option Nat) (a1 : Int32) (a2 : Int32) (a3 : Int32)  (M : Mm) {out : Int32 × Mm} (hB : RW M)  (h : fJ1_indexOf_4cfef fu  a0 a1 a2 a3 M = some out) : Zq M out.2 ∧ RW out.2 := by
  unfold fJ1_indexOf_4cfef at h
  have hS : Zq M M := Zq.rf
  obtain ⟨v2, M1, eM1, h⟩ := b2d h
  have w := zJ1_canEncode_9a6ad fu  a1 M hB  eM1
  have hS := hS.tr w.1
  have hB := w.2
  by_cases hc : v2 = 0
  · have h := (if_pos hc).symm.trans h
    obtain rfl := Option.some.inj h
    exact ⟨hS, hB⟩
  · have h := (if_neg hc).symm.trans h
    obtain ⟨v3, ev3, h⟩ := bd h
    by_cases hc : (jmax a2 (0 : Int32)) < (jmin a3 v3)
    · have h := (if_pos hc).symm.trans h
      obtain ⟨v5, M4, eM4, h⟩ := b2d h
      have w := zJ1_indexOfChar_4cfef fu  a0 a1 (jmax a2 (0 : Int32)) (jmin a3 v3) M1 hB  eM4
      have hS := hS.tr w.1
      have hB := w.2
      obtain rfl := Option.some.inj h
      exact ⟨hS, hB⟩
    · have h := (if_neg hc).symm.trans h
      obtain rfl := Option.some.inj h
      exact ⟨hS, hB⟩
theorem zJ3_checkFromToIndex_8c36e_L14 (fu : Nat)   (a0 : Int32) (a1 : Int32) (a2 : Int32) (a3 : Option Nat)  (M : Mm) {out : Int32 × Mm} (hB : RW M)  (h : fJ3_checkFromToIndex_8c36e_L14 fu  a0 a1 a2 a3 M = some out) : Zq M out.2 ∧ RW out.2 := by
  unfold fJ3_checkFromToIndex_8c36e_L14 at h
  have hS : Zq M M := Zq.rf
  cases h
theorem zJ3_checkFromToIndex_8c36e (fu : Nat)   (a0 : Int32) (a1 : Int32) (a2 : Int32) (a3 : Option Nat)  (M : Mm) {out : Int32 × Mm} (hB : RW M)  (h : fJ3_checkFromToIndex_8c36e fu  a0 a1 a2 a3 M = some out) : Zq M out.2 ∧ RW out.2 := by
  unfold fJ3_checkFromToIndex_8c36e at h
  have hS : Zq M M := Zq.rf
  by_cases hc : a0 < 0
  · have h := (if_pos hc).symm.trans h
    have z := zJ3_checkFromToIndex_8c36e_L14 fu   a0 a1 a2 a3 M hB  h
    exact ⟨hS.tr z.1, z.2⟩
  · have h := (if_neg hc).symm.trans h
    by_cases hc : a1 < a0
    · have h := (if_pos hc).symm.trans h
      have z := zJ3_checkFromToIndex_8c36e_L14 fu   a0 a1 a2 a3 M hB  h
      exact ⟨hS.tr z.1, z.2⟩
    · have h := (if_neg hc).symm.trans h
      by_cases hc : a1 ≤ a2
      · have h := (if_pos hc).symm.trans h
        obtain rfl := Option.some.inj h
        exact ⟨hS, hB⟩
      · have h := (if_neg hc).symm.trans h
        have z := zJ3_checkFromToIndex_8c36e_L14 fu   a0 a1 a2 a3 M hB  h
        exact ⟨hS.tr z.1, z.2⟩
theorem zJ0_checkBoundsBeginEnd_23922 (fu : Nat)   (a0 : Int32) (a1 : Int32) (a2 : Int32)  (M : Mm) {out : Mm} (hB : RW M)  (h : fJ0_checkBoundsBeginEnd_23922 fu  a0 a1 a2 M = some out) : Zq M out ∧ RW out := by
  unfold fJ0_checkBoundsBeginEnd_23922 at h
  have hS : Zq M M := Zq.rf
  obtain ⟨v2, M1, eM1, h⟩ := b2d h
  have w := zJ3_checkFromToIndex_8c36e fu  a0 a1 a2 none M hB  eM1
  have hS := hS.tr w.1
  have hB := w.2
  obtain rfl := Option.some.inj h
  exact ⟨hS, hB⟩
theorem zJ2_checkBoundsBeginEnd_d044e (fu : Nat)   (a0 : Int32) (a1 : Int32) (a2 : Option Nat)  (M : Mm) {out : Mm} (hB : RW M)  (h : fJ2_checkBoundsBeginEnd_d044e fu  a0 a1 a2 M = some out) : Zq M out ∧ RW out := by
  unfold fJ2_checkBoundsBeginEnd_d044e at h
  have hS : Zq M M := Zq.rf
  obtain ⟨v2, M1, eM1, h⟩ := b2d h
  have w := zJ2_length_9d52b fu  a2 M hB  eM1
  have hS := hS.tr w.1
  have hB := w.2
  obtain ⟨M3, eM3, h⟩ := bd h
  have w := zJ0_checkBoundsBeginEnd_23922 fu  a0 a1 v2 M1 hB  eM3
  have hS := hS.tr w.1
  have hB := w.2
  obtain rfl := Option.some.inj h
  exact ⟨hS, hB⟩
theorem zJ2_indexOfCharUnsafe_4cfef_L3 (fu : Nat) {out : Int32 × Mm}   : ∀ (n : Nat) (a0 : Option Nat) (a1 : Int32) (a3 : Int32) (a4 : Int32)  (M : Mm), RW M → fJ2_indexOfCharUnsafe_4cfef_L3 fu  n a0 a1 a3 a4 M = some out → Zq M out.2 ∧ RW out.2 := by
  intro n
  induction n with
  | zero =>
    intro a0 a1 a3 a4 M hB  h
    have h : (none : Option (Int32 × Mm)) = some out := h
    cases h
  | succ n ih =>
    intro a0 a1 a3 a4 M hB  h
    rw [fJ2_indexOfCharUnsafe_4cfef_L3] at h
    have hS : Zq M M := Zq.rf
    by_cases hc : a3 ≤ a4
    · have h := (if_pos hc).symm.trans h
      obtain rfl := Option.some.inj h
      exact ⟨hS, hB⟩
    · have h := (if_neg hc).symm.trans h
      cases h
theorem zJ2_indexOfCharUnsafe_4cfef (fu : Nat)   (a0 : Option Nat) (a1 : Int32) (a2 : Int32) (a3 : Int32)  (M : Mm) {out : Int32 × Mm} (hB : RW M)  (h : fJ2_indexOfCharUnsafe_4cfef fu  a0 a1 a2 a3 M = some out) : Zq M out.2 ∧ RW out.2 := by
  unfold fJ2_indexOfCharUnsafe_4cfef at h
  have hS : Zq M M := Zq.rf
  have z := zJ2_indexOfCharUnsafe_4cfef_L3 fu   fu a0 a1 a3 a2 M hB  h
  exact ⟨hS.tr z.1, z.2⟩
theorem zJ2_indexOfChar_4cfef (fu : Nat)   (a0 : Option Nat) (a1 : Int32) (a2 : Int32) (a3 : Int32)  (M : Mm) {out : Int32 × Mm} (hB : RW M)  (h : fJ2_indexOfChar_4cfef fu  a0 a1 a2 a3 M = some out) : Zq M out.2 ∧ RW out.2 := by
  unfold fJ2_indexOfChar_4cfef at h
  have hS : Zq M M := Zq.rf
  obtain ⟨M1, eM1, h⟩ := bd h
  have w := zJ2_checkBoundsBeginEnd_d044e fu  a2 a3 a0 M hB  eM1
  have hS := hS.tr w.1
  have hB := w.2
  obtain ⟨v3, M2, eM2, h⟩ := b2d h
  have w := zJ2_indexOfCharUnsafe_4cfef fu  a0 a1 a2 a3 M1 hB  eM2
  have hS := hS.tr w.1
  have hB := w.2
  obtain rfl := Option.some.inj h
  exact ⟨hS, hB⟩
theorem zJ11_isValidCodePoint_9a6ad (fu : Nat)   (a0 : Int32)  (M : Mm) {out : Int32 × Mm} (hB : RW M)  (h : fJ11_isValidCodePoint_9a6ad fu  a0 M = some out) : Zq M out.2 ∧ RW out.2 := by
  unfold fJ11_isValidCodePoint_9a6ad at h
  have hS : Zq M M := Zq.rf
  by_cases hc : (17 : Int32) ≤ (ushr a0 (16 : Int32))
  · have h := (if_pos hc).symm.trans h
    obtain ⟨hz, rfl⟩ := rN_some h
    exact ⟨hS, hB⟩
  · have h := (if_neg hc).symm.trans h
    obtain ⟨hz, rfl⟩ := rN_some h
    exact ⟨hS, hB⟩
theorem zJ11_highSurrogate_5068e (fu : Nat)   (a0 : Int32)  (M : Mm) {out : Int32 × Mm} (hB : RW M)  (h : fJ11_highSurrogate_5068e fu  a0 M = some out) : Zq M out.2 ∧ RW out.2 := by
  unfold fJ11_highSurrogate_5068e at h
  have hS : Zq M M := Zq.rf
  obtain ⟨hz, rfl⟩ := rN_some h
  exact ⟨hS, hB⟩
theorem zJ11_lowSurrogate_5068e (fu : Nat)   (a0 : Int32)  (M : Mm) {out : Int32 × Mm} (hB : RW M)  (h : fJ11_lowSurrogate_5068e fu  a0 M = some out) : Zq M out.2 ∧ RW out.2 := by
  unfold fJ11_lowSurrogate_5068e at h
  have hS : Zq M M := Zq.rf
  obtain ⟨hz, rfl⟩ := rN_some h
  exact ⟨hS, hB⟩
theorem zJ2_indexOfSupplementary_4cfef_L63 (fu : Nat) {out : Int32 × Mm} (k28 : Option Nat → Int32 → Int32 → Int32 → Int32 → Mm → Option (Int32 × Mm)) (hk28 : ∀ (b0 : Option Nat) (b3 : Int32) (b4 : Int32) (b5 : Int32) (b6 : Int32)  (M : Mm), RW M → k28 b0 b3 b4 b5 b6 M = some out → Zq M out.2 ∧ RW out.2) (a0 : Option Nat) (a3 : Int32) (a4 : Int32) (a5 : Int32) (a6 : Int32)  (M : Mm) (hB : RW M)  (h : fJ2_indexOfSupplementary_4cfef_L63 fu k28 a0 a3 a4 a5 a6 M = some out) : Zq M out.2 ∧ RW out.2 := by
  unfold fJ2_indexOfSupplementary_4cfef_L63 at h
  have hS : Zq M M := Zq.rf
  have z := hk28 a0 a3 a4 a5 (a6 + (1 : Int32)) M hB  h
  exact ⟨hS.tr z.1, z.2⟩
theorem zJ2_indexOfSupplementary_4cfef_L28 (fu : Nat) {out : Int32 × Mm}   : ∀ (n : Nat) (a0 : Option Nat) (a3 : Int32) (a4 : Int32) (a5 : Int32) (a6 : Int32)  (M : Mm), RW M → fJ2_indexOfSupplementary_4cfef_L28 fu  n a0 a3 a4 a5 a6 M = some out → Zq M out.2 ∧ RW out.2 := by
  intro n
  induction n with
  | zero =>
    intro a0 a3 a4 a5 a6 M hB  h
    have h : (none : Option (Int32 × Mm)) = some out := h
    cases h
  | succ n ih =>
    intro a0 a3 a4 a5 a6 M hB  h
    rw [fJ2_indexOfSupplementary_4cfef_L28] at h
    have hS : Zq M M := Zq.rf
    by_cases hc : (a3 - (1 : Int32)) ≤ a6
    · have h := (if_pos hc).symm.trans h
      obtain rfl := Option.some.inj h
      exact ⟨hS, hB⟩
    · have h := (if_neg hc).symm.trans h
      cases h
theorem zJ2_indexOfSupplementary_4cfef (fu : Nat)   (a0 : Option Nat) (a1 : Int32) (a2 : Int32) (a3 : Int32)  (M : Mm) {out : Int32 × Mm} (hB : RW M)  (h : fJ2_indexOfSupplementary_4cfef fu  a0 a1 a2 a3 M = some out) : Zq M out.2 ∧ RW out.2 := by
  unfold fJ2_indexOfSupplementary_4cfef at h
  have hS : Zq M M := Zq.rf
  obtain ⟨v2, M1, eM1, h⟩ := b2d h
  have w := zJ11_isValidCodePoint_9a6ad fu  a1 M hB  eM1
  have hS := hS.tr w.1
  have hB := w.2
  by_cases hc : v2 = 0
  · have h := (if_pos hc).symm.trans h
    obtain rfl := Option.some.inj h
    exact ⟨hS, hB⟩
  · have h := (if_neg hc).symm.trans h
    obtain ⟨v4, M3, eM3, h⟩ := b2d h
    have w := zJ11_highSurrogate_5068e fu  a1 M1 hB  eM3
    have hS := hS.tr w.1
    have hB := w.2
    obtain ⟨v6, M5, eM5, h⟩ := b2d h
    have w := zJ11_lowSurrogate_5068e fu  a1 M3 hB  eM5
    have hS := hS.tr w.1
    have hB := w.2
    obtain ⟨M7, eM7, h⟩ := bd h
    have w := zJ2_checkBoundsBeginEnd_d044e fu  a2 a3 a0 M5 hB  eM7
    have hS := hS.tr w.1
    have hB := w.2
    have z := zJ2_indexOfSupplementary_4cfef_L28 fu   fu a0 a3 v4 v6 a2 M7 hB  h
    exact ⟨hS.tr z.1, z.2⟩
theorem zJ2_indexOf_4cfef (fu : Nat)   (a0 : Option Nat) (a1 : Int32) (a2 : Int32) (a3 : Int32)  (M : Mm) {out : Int32 × Mm} (hB : RW M)  (h : fJ2_indexOf_4cfef fu  a0 a1 a2 a3 M = some out) : Zq M out.2 ∧ RW out.2 := by
  unfold fJ2_indexOf_4cfef at h
  have hS : Zq M M := Zq.rf
  obtain ⟨v1, ev1, h⟩ := bd h
  by_cases hc : (jmax a2 (0 : Int32)) < (jmin a3 (v1 >>> ((1 : Int32) &&& 31)))
  · have h := (if_pos hc).symm.trans h
    by_cases hc : (65536 : Int32) ≤ a1
    · have h := (if_pos hc).symm.trans h
      obtain ⟨v3, M2, eM2, h⟩ := b2d h
      have w := zJ2_indexOfSupplementary_4cfef fu  a0 a1 (jmax a2 (0 : Int32)) (jmin a3 (v1 >>> ((1 : Int32) &&& 31))) M hB  eM2
      have hS := hS.tr w.1
      have hB := w.2
      obtain rfl := Option.some.inj h
      exact ⟨hS, hB⟩
    · have h := (if_neg hc).symm.trans h
      obtain ⟨v5, M4, eM4, h⟩ := b2d h
      have w := zJ2_indexOfChar_4cfef fu  a0 a1 (jmax a2 (0 : Int32)) (jmin a3 (v1 >>> ((1 : Int32) &&& 31))) M hB  eM4
      have hS := hS.tr w.1
      have hB := w.2
      obtain rfl := Option.some.inj h
      exact ⟨hS, hB⟩
  · have h := (if_neg hc).symm.trans h
    obtain rfl := Option.some.inj h
    exact ⟨hS, hB⟩
theorem zJ0_indexOf_7cf53 (fu : Nat)   (a0 : Nat) (a1 : Int32) (a2 : Int32)  (M : Mm) {out : Int32 × Mm} (hB : RW M)  (h : fJ0_indexOf_7cf53 fu  a0 a1 a2 M = some out) : Zq M out.2 ∧ RW out.2 := by
  unfold fJ0_indexOf_7cf53 at h
  have hS : Zq M M := Zq.rf
  obtain ⟨q1, eq1, h⟩ := bd h
  obtain ⟨v3, M2, eM2, h⟩ := b2d h
  have w := zJ0_isLatin1_aae02 fu q1  M hB  eM2
  have hS := hS.tr w.1
  have hB := w.2
  by_cases hc : v3 = 0
  · have h := (if_pos hc).symm.trans h
    obtain ⟨v4, ev4, h⟩ := bd h
    obtain ⟨q5, eq5, h⟩ := bd h
    obtain ⟨v7, M6, eM6, h⟩ := b2d h
    have w := zJ0_length_8abf5 fu q5  M2 hB  eM6
    have hS := hS.tr w.1
    have hB := w.2
    obtain ⟨v9, M8, eM8, h⟩ := b2d h
    have w := zJ2_indexOf_4cfef fu  v4 a1 a2 v7 M6 hB  eM8
    have hS := hS.tr w.1
    have hB := w.2
    obtain rfl := Option.some.inj h
    exact ⟨hS, hB⟩
  · have h := (if_neg hc).symm.trans h
    obtain ⟨v10, ev10, h⟩ := bd h
    obtain ⟨q11, eq11, h⟩ := bd h
    obtain ⟨v13, M12, eM12, h⟩ := b2d h
    have w := zJ0_length_8abf5 fu q11  M2 hB  eM12
    have hS := hS.tr w.1
    have hB := w.2
    obtain ⟨v15, M14, eM14, h⟩ := b2d h
    have w := zJ1_indexOf_4cfef fu  v10 a1 a2 v13 M12 hB  eM14
    have hS := hS.tr w.1
    have hB := w.2
    obtain rfl := Option.some.inj h
    exact ⟨hS, hB⟩
theorem zJ0_indexOf_0f7a4 (fu : Nat)   (a0 : Nat) (a1 : Int32)  (M : Mm) {out : Int32 × Mm} (hB : RW M)  (h : fJ0_indexOf_0f7a4 fu  a0 a1 M = some out) : Zq M out.2 ∧ RW out.2 := by
  unfold fJ0_indexOf_0f7a4 at h
  have hS : Zq M M := Zq.rf
  obtain ⟨q1, eq1, h⟩ := bd h
  obtain ⟨v3, M2, eM2, h⟩ := b2d h
  have w := zJ0_indexOf_7cf53 fu q1 a1 (0 : Int32) M hB  eM2
  have hS := hS.tr w.1
  have hB := w.2
  obtain rfl := Option.some.inj h
  exact ⟨hS, hB⟩
theorem zX12_behind (fu : Nat)   (a0 : Nat)  (M : Mm) {out : Int32 × Mm} (hB : RW M)  (h : fX12_behind fu  a0 M = some out) : Zq M out.2 ∧ RW out.2 := by
  unfold fX12_behind at h
  have hS : Zq M M := Zq.rf
  obtain ⟨v1, ev1, h⟩ := bd h
  obtain ⟨v2, ev2, h⟩ := bd h
  obtain ⟨v3, ev3, h⟩ := bd h
  obtain rfl := Option.some.inj h
  exact ⟨hS, hB⟩
theorem zX12_left (fu : Nat)   (a0 : Nat) (a1 : Int32)  (M : Mm) {out : Int32 × Mm} (hB : RW M)  (h : fX12_left fu  a0 a1 M = some out) : Zq M out.2 ∧ RW out.2 := by
  unfold fX12_left at h
  have hS : Zq M M := Zq.rf
  obtain ⟨q1, eq1, h⟩ := bd h
  obtain ⟨v3, M2, eM2, h⟩ := b2d h
  have w := zX12_behind fu q1  M hB  eM2
  have hS := hS.tr w.1
  have hB := w.2
  obtain ⟨v4, ev4, h⟩ := bd h
  by_cases hc : v4 = 0
  · have h := (if_pos hc).symm.trans h
    obtain rfl := Option.some.inj h
    exact ⟨hS, hB⟩
  · have h := (if_neg hc).symm.trans h
    obtain rfl := Option.some.inj h
    exact ⟨hS, hB⟩
theorem zX12_held (fu : Nat)   (a0 : Nat)  (M : Mm) {out : Int32 × Mm} (hB : RW M)  (h : fX12_held fu  a0 M = some out) : Zq M out.2 ∧ RW out.2 := by
  unfold fX12_held at h
  have hS : Zq M M := Zq.rf
  obtain ⟨v1, ev1, h⟩ := bd h
  obtain ⟨v2, ev2, h⟩ := bd h
  obtain ⟨v3, ev3, h⟩ := bd h
  by_cases hc : v3 = 0
  · have h := (if_pos hc).symm.trans h
    obtain rfl := Option.some.inj h
    exact ⟨hS, hB⟩
  · have h := (if_neg hc).symm.trans h
    obtain rfl := Option.some.inj h
    exact ⟨hS, hB⟩
theorem zX12_open (fu : Nat)   (a0 : Nat)  (M : Mm) {out : Int32 × Mm} (hB : RW M)  (h : fX12_open fu  a0 M = some out) : Zq M out.2 ∧ RW out.2 := by
  unfold fX12_open at h
  have hS : Zq M M := Zq.rf
  obtain ⟨q1, eq1, h⟩ := bd h
  obtain ⟨v3, M2, eM2, h⟩ := b2d h
  have w := zX12_held fu q1  M hB  eM2
  have hS := hS.tr w.1
  have hB := w.2
  obtain rfl := Option.some.inj h
  exact ⟨hS, hB⟩
theorem zX16_word_L2 (fu : Nat) {out : Mm}   : ∀ (n : Nat) (a0 : Nat) (a1 : Int32) (a2 : Int32)  (M : Mm), RW M → a0 = 323 → fX16_word_L2 fu  n a0 a1 a2 M = some out → Zq M out ∧ RW out := by
  intro n
  induction n with
  | zero =>
    intro a0 a1 a2 M hB ra0 h
    have h : (none : Option (Mm)) = some out := h
    cases h
  | succ n ih =>
    intro a0 a1 a2 M hB ra0 h
    rw [fX16_word_L2] at h
    have hS : Zq M M := Zq.rf
    by_cases hc : (4 : Int32) ≤ a2
    · have h := (if_pos hc).symm.trans h
      obtain rfl := Option.some.inj h
      exact ⟨hS, hB⟩
    · have h := (if_neg hc).symm.trans h
      obtain ⟨v1, ev1, h⟩ := bd h
      obtain ⟨v2, ev2, h⟩ := bd h
      obtain ⟨M3, eM3, h⟩ := bd h
      have w := z_pA hB (by decide) eM3
      have hS := hS.tr w.1
      have hB := w.2
      obtain ⟨v4, ev4, h⟩ := bd h
      obtain ⟨M5, eM5, h⟩ := bd h
      have w := z_pF hB eM5 (by decide)
      have hS := hS.tr w.1
      have hB := w.2
      have z := ih a0 a1 (a2 + (1 : Int32)) M5 hB ra0 h
      exact ⟨hS.tr z.1, z.2⟩
theorem zX16_word (fu : Nat)   (a0 : Nat) (a1 : Int32)  (M : Mm) {out : Mm} (hB : RW M) (ra0 : a0 = 323) (h : fX16_word fu  a0 a1 M = some out) : Zq M out ∧ RW out := by
  unfold fX16_word at h
  have hS : Zq M M := Zq.rf
  have z := zX16_word_L2 fu   fu a0 a1 (0 : Int32) M hB ra0 h
  exact ⟨hS.tr z.1, z.2⟩
theorem zX16_feed (fu : Nat)   (a0 : Nat) (a1 : Int32) (a2 : Int32) (a3 : Int32) (a4 : Int32) (a5 : Int32)  (M : Mm) {out : Int32 × Mm} (hB : RW M) (ra0 : a0 = 323) (h : fX16_feed fu  a0 a1 a2 a3 a4 a5 M = some out) : Zq M out.2 ∧ RW out.2 := by
  unfold fX16_feed at h
  have hS : Zq M M := Zq.rf
  obtain ⟨v1, ev1, h⟩ := bd h
  by_cases hc : (v1 + (20 : Int32)) ≤ (65540 : Int32)
  · have h := (if_pos hc).symm.trans h
    obtain ⟨q2, eq2, h⟩ := bd h
    have rq2 := z_rc (z_some ra0) eq2
    obtain ⟨M3, eM3, h⟩ := bd h
    have w := zX16_word fu q2 a1 M hB rq2 eM3
    have hS := hS.tr w.1
    have hB := w.2
    obtain ⟨q4, eq4, h⟩ := bd h
    have rq4 := z_rc (z_some ra0) eq4
    obtain ⟨M5, eM5, h⟩ := bd h
    have w := zX16_word fu q4 a2 M3 hB rq4 eM5
    have hS := hS.tr w.1
    have hB := w.2
    obtain ⟨q6, eq6, h⟩ := bd h
    have rq6 := z_rc (z_some ra0) eq6
    obtain ⟨M7, eM7, h⟩ := bd h
    have w := zX16_word fu q6 a3 M5 hB rq6 eM7
    have hS := hS.tr w.1
    have hB := w.2
    obtain ⟨q8, eq8, h⟩ := bd h
    have rq8 := z_rc (z_some ra0) eq8
    obtain ⟨M9, eM9, h⟩ := bd h
    have w := zX16_word fu q8 a4 M7 hB rq8 eM9
    have hS := hS.tr w.1
    have hB := w.2
    obtain ⟨q10, eq10, h⟩ := bd h
    have rq10 := z_rc (z_some ra0) eq10
    obtain ⟨M11, eM11, h⟩ := bd h
    have w := zX16_word fu q10 a5 M9 hB rq10 eM11
    have hS := hS.tr w.1
    have hB := w.2
    obtain ⟨v12, ev12, h⟩ := bd h
    obtain rfl := Option.some.inj h
    exact ⟨hS, hB⟩
  · have h := (if_neg hc).symm.trans h
    obtain rfl := Option.some.inj h
    exact ⟨hS, hB⟩
theorem zX16_end (fu : Nat)   (a0 : Nat) (a1 : Int32)  (M : Mm) {out : Int32 × Mm} (hB : RW M) (ra0 : a0 = 323) (h : fX16_end fu  a0 a1 M = some out) : Zq M out.2 ∧ RW out.2 := by
  unfold fX16_end at h
  have hS : Zq M M := Zq.rf
  by_cases hc : a1 < 0
  · have h := (if_pos hc).symm.trans h
    obtain rfl := Option.some.inj h
    exact ⟨hS, hB⟩
  · have h := (if_neg hc).symm.trans h
    obtain ⟨v1, ev1, h⟩ := bd h
    by_cases hc : a1 ≤ v1
    · have h := (if_pos hc).symm.trans h
      obtain ⟨M2, eM2, h⟩ := bd h
      have w := z_pF hB eM2 (by decide)
      have hS := hS.tr w.1
      have hB := w.2
      obtain rfl := Option.some.inj h
      exact ⟨hS, hB⟩
    · have h := (if_neg hc).symm.trans h
      obtain rfl := Option.some.inj h
      exact ⟨hS, hB⟩
theorem zX16_install_L13 (fu : Nat) {out : Int32 × Mm}   : ∀ (n : Nat) (a0 : Nat) (a1 : Int32)  (M : Mm), RW M → a0 = 323 → fX16_install_L13 fu  n a0 a1 M = some out → Zq M out.2 ∧ RW out.2 := by
  intro n
  induction n with
  | zero =>
    intro a0 a1 M hB ra0 h
    have h : (none : Option (Int32 × Mm)) = some out := h
    cases h
  | succ n ih =>
    intro a0 a1 M hB ra0 h
    rw [fX16_install_L13] at h
    have hS : Zq M M := Zq.rf
    obtain ⟨v1, ev1, h⟩ := bd h
    by_cases hc : v1 ≤ a1
    · have h := (if_pos hc).symm.trans h
      obtain ⟨v2, ev2, h⟩ := bd h
      obtain ⟨M3, eM3, h⟩ := bd h
      have w := z_pF hB eM3 (by decide)
      have hS := hS.tr w.1
      have hB := w.2
      obtain ⟨M4, eM4, h⟩ := bd h
      have w := z_pF hB eM4 (by decide)
      have hS := hS.tr w.1
      have hB := w.2
      obtain ⟨M5, eM5, h⟩ := bd h
      have w := z_pZ hB eM5 (by decide)
      have hS := hS.tr w.1
      have hB := w.2
      obtain ⟨v6, ev6, h⟩ := bd h
      obtain rfl := Option.some.inj h
      exact ⟨hS, hB⟩
    · have h := (if_neg hc).symm.trans h
      obtain ⟨v7, ev7, h⟩ := bd h
      obtain ⟨v8, ev8, h⟩ := bd h
      obtain ⟨v9, ev9, h⟩ := bd h
      obtain ⟨M10, eM10, h⟩ := bd h
      have w := z_pA hB (by decide) eM10
      have hS := hS.tr w.1
      have hB := w.2
      have z := ih a0 (a1 + (1 : Int32)) M10 hB ra0 h
      exact ⟨hS.tr z.1, z.2⟩
theorem zX16_install (fu : Nat)   (a0 : Nat)  (M : Mm) {out : Int32 × Mm} (hB : RW M) (ra0 : a0 = 323) (h : fX16_install fu  a0 M = some out) : Zq M out.2 ∧ RW out.2 := by
  unfold fX16_install at h
  have hS : Zq M M := Zq.rf
  obtain ⟨v1, ev1, h⟩ := bd h
  by_cases hc : v1 ≤ (65535 : Int32)
  · have h := (if_pos hc).symm.trans h
    have z := zX16_install_L13 fu   fu a0 (0 : Int32) M hB ra0 h
    exact ⟨hS.tr z.1, z.2⟩
  · have h := (if_neg hc).symm.trans h
    obtain rfl := Option.some.inj h
    exact ⟨hS, hB⟩
theorem zX16_imageWord_L5 (fu : Nat) {out : Int64 × Mm}   : ∀ (n : Nat) (a0 : Nat) (a1 : Int32) (a2 : Int64) (a4 : Int32)  (M : Mm), RW M → a0 = 323 → fX16_imageWord_L5 fu  n a0 a1 a2 a4 M = some out → Zq M out.2 ∧ RW out.2 := by
  intro n
  induction n with
  | zero =>
    intro a0 a1 a2 a4 M hB ra0 h
    have h : (none : Option (Int64 × Mm)) = some out := h
    cases h
  | succ n ih =>
    intro a0 a1 a2 a4 M hB ra0 h
    rw [fX16_imageWord_L5] at h
    have hS : Zq M M := Zq.rf
    by_cases hc : (4 : Int32) ≤ a4
    · have h := (if_pos hc).symm.trans h
      obtain rfl := Option.some.inj h
      exact ⟨hS, hB⟩
    · have h := (if_neg hc).symm.trans h
      obtain ⟨v1, ev1, h⟩ := bd h
      obtain ⟨v2, ev2, h⟩ := bd h
      obtain ⟨v3, ev3, h⟩ := bd h
      have z := ih a0 a1 v3 (a4 + (1 : Int32)) M hB ra0 h
      exact ⟨hS.tr z.1, z.2⟩
theorem zX16_imageWord (fu : Nat)   (a0 : Nat) (a1 : Int32)  (M : Mm) {out : Int64 × Mm} (hB : RW M) (ra0 : a0 = 323) (h : fX16_imageWord fu  a0 a1 M = some out) : Zq M out.2 ∧ RW out.2 := by
  unfold fX16_imageWord at h
  have hS : Zq M M := Zq.rf
  have z := zX16_imageWord_L5 fu   fu a0 a1 (0 : Int64) (0 : Int32) M hB ra0 h
  exact ⟨hS.tr z.1, z.2⟩
theorem zX16_check_L54 (fu : Nat) {out : Int32 × Mm} (k5 : Nat → Int32 → Int32 → Int32 → Mm → Option (Int32 × Mm)) (k28 : Nat → Int32 → Int32 → Int32 → Int32 → Mm → Option (Int32 × Mm)) (hk5 : ∀ (b0 : Nat) (b2 : Int32) (b3 : Int32) (b4 : Int32)  (M : Mm), RW M → b0 = 323 → k5 b0 b2 b3 b4 M = some out → Zq M out.2 ∧ RW out.2) (hk28 : ∀ (b0 : Nat) (b2 : Int32) (b3 : Int32) (b4 : Int32) (b5 : Int32)  (M : Mm), RW M → b0 = 323 → k28 b0 b2 b3 b4 b5 M = some out → Zq M out.2 ∧ RW out.2) (a0 : Nat) (a2 : Int32) (a4 : Int32) (a5 : Int32) (s0 : Int32) (M : Mm) (hB : RW M) (ra0 : a0 = 323) (h : fX16_check_L54 fu k5 k28 a0 a2 a4 a5 s0 M = some out) : Zq M out.2 ∧ RW out.2 := by
  unfold fX16_check_L54 at h
  have hS : Zq M M := Zq.rf
  have z := hk28 a0 a2 s0 a4 (a5 + (1 : Int32)) M hB ra0 h
  exact ⟨hS.tr z.1, z.2⟩
theorem zX16_check_L28 (fu : Nat) {out : Int32 × Mm} (k5 : Nat → Int32 → Int32 → Int32 → Mm → Option (Int32 × Mm)) (hk5 : ∀ (b0 : Nat) (b2 : Int32) (b3 : Int32) (b4 : Int32)  (M : Mm), RW M → b0 = 323 → k5 b0 b2 b3 b4 M = some out → Zq M out.2 ∧ RW out.2) : ∀ (n : Nat) (a0 : Nat) (a2 : Int32) (a3 : Int32) (a4 : Int32) (a5 : Int32)  (M : Mm), RW M → a0 = 323 → fX16_check_L28 fu k5 n a0 a2 a3 a4 a5 M = some out → Zq M out.2 ∧ RW out.2 := by
  intro n
  induction n with
  | zero =>
    intro a0 a2 a3 a4 a5 M hB ra0 h
    have h : (none : Option (Int32 × Mm)) = some out := h
    cases h
  | succ n ih =>
    intro a0 a2 a3 a4 a5 M hB ra0 h
    rw [fX16_check_L28] at h
    have hS : Zq M M := Zq.rf
    by_cases hc : (8 : Int32) ≤ a5
    · have h := (if_pos hc).symm.trans h
      have z := hk5 a0 a2 a3 (a4 + (1 : Int32)) M hB ra0 h
      exact ⟨hS.tr z.1, z.2⟩
    · have h := (if_neg hc).symm.trans h
      by_cases hc : (a3 &&& (1 : Int32)) = (1 : Int32)
      · have h := (if_pos hc).symm.trans h
        have z := zX16_check_L54 fu k5 (fun b0 b2 b3 b4 b5 M => fX16_check_L28 fu k5 n b0 b2 b3 b4 b5 M) hk5 ih a0 a2 a4 a5 ((ushr a3 (1 : Int32)) ^^^ (-306674912 : Int32)) M hB ra0 h
        exact ⟨hS.tr z.1, z.2⟩
      · have h := (if_neg hc).symm.trans h
        have z := zX16_check_L54 fu k5 (fun b0 b2 b3 b4 b5 M => fX16_check_L28 fu k5 n b0 b2 b3 b4 b5 M) hk5 ih a0 a2 a4 a5 (ushr a3 (1 : Int32)) M hB ra0 h
        exact ⟨hS.tr z.1, z.2⟩
theorem zX16_check_L5 (fu : Nat) {out : Int32 × Mm}   : ∀ (n : Nat) (a0 : Nat) (a2 : Int32) (a3 : Int32) (a4 : Int32)  (M : Mm), RW M → a0 = 323 → fX16_check_L5 fu  n a0 a2 a3 a4 M = some out → Zq M out.2 ∧ RW out.2 := by
  intro n
  induction n with
  | zero =>
    intro a0 a2 a3 a4 M hB ra0 h
    have h : (none : Option (Int32 × Mm)) = some out := h
    cases h
  | succ n ih =>
    intro a0 a2 a3 a4 M hB ra0 h
    rw [fX16_check_L5] at h
    have hS : Zq M M := Zq.rf
    by_cases hc : a2 ≤ a4
    · have h := (if_pos hc).symm.trans h
      obtain rfl := Option.some.inj h
      exact ⟨hS, hB⟩
    · have h := (if_neg hc).symm.trans h
      obtain ⟨v1, ev1, h⟩ := bd h
      obtain ⟨v2, ev2, h⟩ := bd h
      have z := zX16_check_L28 fu (fun b0 b2 b3 b4 M => fX16_check_L5 fu  n b0 b2 b3 b4 M) ih fu a0 a2 (a3 ^^^ (v2 &&& (255 : Int32))) a4 (0 : Int32) M hB ra0 h
      exact ⟨hS.tr z.1, z.2⟩
theorem zX16_check (fu : Nat)   (a0 : Nat) (a1 : Int32) (a2 : Int32)  (M : Mm) {out : Int32 × Mm} (hB : RW M) (ra0 : a0 = 323) (h : fX16_check fu  a0 a1 a2 M = some out) : Zq M out.2 ∧ RW out.2 := by
  unfold fX16_check at h
  have hS : Zq M M := Zq.rf
  have z := zX16_check_L5 fu   fu a0 a2 (-1 : Int32) a1 M hB ra0 h
  exact ⟨hS.tr z.1, z.2⟩
theorem zX16_files_L376 (fu : Nat) {out : Int32 × Mm} (k151 : Nat → Int32 → Int32 → Mm → Option (Int32 × Mm)) (k319 : Nat → Int32 → Int32 → Int32 → Int32 → Mm → Option (Int32 × Mm)) (k331 : Nat → Int32 → Int32 → Int32 → Int32 → Int32 → Int32 → Mm → Option (Int32 × Mm)) (hk151 : ∀ (b0 : Nat) (b1 : Int32) (b2 : Int32)  (M : Mm), RW M → b0 = 323 → k151 b0 b1 b2 M = some out → Zq M out.2 ∧ RW out.2) (hk319 : ∀ (b0 : Nat) (b1 : Int32) (b2 : Int32) (b3 : Int32) (b5 : Int32)  (M : Mm), RW M → b0 = 323 → k319 b0 b1 b2 b3 b5 M = some out → Zq M out.2 ∧ RW out.2) (hk331 : ∀ (b0 : Nat) (b1 : Int32) (b2 : Int32) (b3 : Int32) (b5 : Int32) (b6 : Int32) (b7 : Int32)  (M : Mm), RW M → b0 = 323 → k331 b0 b1 b2 b3 b5 b6 b7 M = some out → Zq M out.2 ∧ RW out.2) (a0 : Nat) (a1 : Int32) (a2 : Int32) (a3 : Int32) (a5 : Int32) (a7 : Int32) (s0 : Int32) (M : Mm) (hB : RW M) (ra0 : a0 = 323) (h : fX16_files_L376 fu k151 k319 k331 a0 a1 a2 a3 a5 a7 s0 M = some out) : Zq M out.2 ∧ RW out.2 := by
  unfold fX16_files_L376 at h
  have hS : Zq M M := Zq.rf
  have z := hk331 a0 a1 a2 a3 a5 s0 (a7 + (1 : Int32)) M hB ra0 h
  exact ⟨hS.tr z.1, z.2⟩
theorem zX16_files_L375 (fu : Nat) {out : Int32 × Mm} (k151 : Nat → Int32 → Int32 → Mm → Option (Int32 × Mm)) (k319 : Nat → Int32 → Int32 → Int32 → Int32 → Mm → Option (Int32 × Mm)) (k331 : Nat → Int32 → Int32 → Int32 → Int32 → Int32 → Int32 → Mm → Option (Int32 × Mm)) (hk151 : ∀ (b0 : Nat) (b1 : Int32) (b2 : Int32)  (M : Mm), RW M → b0 = 323 → k151 b0 b1 b2 M = some out → Zq M out.2 ∧ RW out.2) (hk319 : ∀ (b0 : Nat) (b1 : Int32) (b2 : Int32) (b3 : Int32) (b5 : Int32)  (M : Mm), RW M → b0 = 323 → k319 b0 b1 b2 b3 b5 M = some out → Zq M out.2 ∧ RW out.2) (hk331 : ∀ (b0 : Nat) (b1 : Int32) (b2 : Int32) (b3 : Int32) (b5 : Int32) (b6 : Int32) (b7 : Int32)  (M : Mm), RW M → b0 = 323 → k331 b0 b1 b2 b3 b5 b6 b7 M = some out → Zq M out.2 ∧ RW out.2) (a0 : Nat) (a1 : Int32) (a2 : Int32) (a3 : Int32) (a5 : Int32) (a7 : Int32)  (M : Mm) (hB : RW M) (ra0 : a0 = 323) (h : fX16_files_L375 fu k151 k319 k331 a0 a1 a2 a3 a5 a7 M = some out) : Zq M out.2 ∧ RW out.2 := by
  unfold fX16_files_L375 at h
  have hS : Zq M M := Zq.rf
  have z := zX16_files_L376 fu k151 k319 k331 hk151 hk319 hk331 a0 a1 a2 a3 a5 a7 (0 : Int32) M hB ra0 h
  exact ⟨hS.tr z.1, z.2⟩
theorem zX16_files_L331 (fu : Nat) {out : Int32 × Mm} (k151 : Nat → Int32 → Int32 → Mm → Option (Int32 × Mm)) (k319 : Nat → Int32 → Int32 → Int32 → Int32 → Mm → Option (Int32 × Mm)) (hk151 : ∀ (b0 : Nat) (b1 : Int32) (b2 : Int32)  (M : Mm), RW M → b0 = 323 → k151 b0 b1 b2 M = some out → Zq M out.2 ∧ RW out.2) (hk319 : ∀ (b0 : Nat) (b1 : Int32) (b2 : Int32) (b3 : Int32) (b5 : Int32)  (M : Mm), RW M → b0 = 323 → k319 b0 b1 b2 b3 b5 M = some out → Zq M out.2 ∧ RW out.2) : ∀ (n : Nat) (a0 : Nat) (a1 : Int32) (a2 : Int32) (a3 : Int32) (a5 : Int32) (a6 : Int32) (a7 : Int32)  (M : Mm), RW M → a0 = 323 → fX16_files_L331 fu k151 k319 n a0 a1 a2 a3 a5 a6 a7 M = some out → Zq M out.2 ∧ RW out.2 := by
  intro n
  induction n with
  | zero =>
    intro a0 a1 a2 a3 a5 a6 a7 M hB ra0 h
    have h : (none : Option (Int32 × Mm)) = some out := h
    cases h
  | succ n ih =>
    intro a0 a1 a2 a3 a5 a6 a7 M hB ra0 h
    rw [fX16_files_L331] at h
    have hS : Zq M M := Zq.rf
    by_cases hc : (48 : Int32) ≤ a7
    · have h := (if_pos hc).symm.trans h
      by_cases hc : a6 = 0
      · have h := (if_pos hc).symm.trans h
        have z := hk319 a0 a1 a2 a3 (a5 + (1 : Int32)) M hB ra0 h
        exact ⟨hS.tr z.1, z.2⟩
      · have h := (if_neg hc).symm.trans h
        obtain rfl := Option.some.inj h
        exact ⟨hS, hB⟩
    · have h := (if_neg hc).symm.trans h
      by_cases hc : a6 = 0
      · have h := (if_pos hc).symm.trans h
        have z := zX16_files_L375 fu k151 k319 (fun b0 b1 b2 b3 b5 b6 b7 M => fX16_files_L331 fu k151 k319 n b0 b1 b2 b3 b5 b6 b7 M) hk151 hk319 ih a0 a1 a2 a3 a5 a7 M hB ra0 h
        exact ⟨hS.tr z.1, z.2⟩
      · have h := (if_neg hc).symm.trans h
        obtain ⟨v1, ev1, h⟩ := bd h
        obtain ⟨v2, ev2, h⟩ := bd h
        obtain ⟨v3, ev3, h⟩ := bd h
        obtain ⟨v4, ev4, h⟩ := bd h
        by_cases hc : v2 = v4
        · have h := (if_pos hc).symm.trans h
          have z := zX16_files_L376 fu k151 k319 (fun b0 b1 b2 b3 b5 b6 b7 M => fX16_files_L331 fu k151 k319 n b0 b1 b2 b3 b5 b6 b7 M) hk151 hk319 ih a0 a1 a2 a3 a5 a7 (1 : Int32) M hB ra0 h
          exact ⟨hS.tr z.1, z.2⟩
        · have h := (if_neg hc).symm.trans h
          have z := zX16_files_L375 fu k151 k319 (fun b0 b1 b2 b3 b5 b6 b7 M => fX16_files_L331 fu k151 k319 n b0 b1 b2 b3 b5 b6 b7 M) hk151 hk319 ih a0 a1 a2 a3 a5 a7 M hB ra0 h
          exact ⟨hS.tr z.1, z.2⟩
theorem zX16_files_L319 (fu : Nat) {out : Int32 × Mm} (k151 : Nat → Int32 → Int32 → Mm → Option (Int32 × Mm)) (hk151 : ∀ (b0 : Nat) (b1 : Int32) (b2 : Int32)  (M : Mm), RW M → b0 = 323 → k151 b0 b1 b2 M = some out → Zq M out.2 ∧ RW out.2) : ∀ (n : Nat) (a0 : Nat) (a1 : Int32) (a2 : Int32) (a3 : Int32) (a5 : Int32)  (M : Mm), RW M → a0 = 323 → fX16_files_L319 fu k151 n a0 a1 a2 a3 a5 M = some out → Zq M out.2 ∧ RW out.2 := by
  intro n
  induction n with
  | zero =>
    intro a0 a1 a2 a3 a5 M hB ra0 h
    have h : (none : Option (Int32 × Mm)) = some out := h
    cases h
  | succ n ih =>
    intro a0 a1 a2 a3 a5 M hB ra0 h
    rw [fX16_files_L319] at h
    have hS : Zq M M := Zq.rf
    by_cases hc : a2 ≤ a5
    · have h := (if_pos hc).symm.trans h
      have z := hk151 a0 a1 (a2 + (1 : Int32)) M hB ra0 h
      exact ⟨hS.tr z.1, z.2⟩
    · have h := (if_neg hc).symm.trans h
      have z := zX16_files_L331 fu k151 (fun b0 b1 b2 b3 b5 M => fX16_files_L319 fu k151 n b0 b1 b2 b3 b5 M) hk151 ih fu a0 a1 a2 a3 a5 (1 : Int32) (0 : Int32) M hB ra0 h
      exact ⟨hS.tr z.1, z.2⟩
theorem zX16_files_L269 (fu : Nat) {out : Int32 × Mm} (k151 : Nat → Int32 → Int32 → Mm → Option (Int32 × Mm)) (k220 : Nat → Int32 → Int32 → Int32 → Int32 → Int32 → Mm → Option (Int32 × Mm)) (hk151 : ∀ (b0 : Nat) (b1 : Int32) (b2 : Int32)  (M : Mm), RW M → b0 = 323 → k151 b0 b1 b2 M = some out → Zq M out.2 ∧ RW out.2) (hk220 : ∀ (b0 : Nat) (b1 : Int32) (b2 : Int32) (b3 : Int32) (b4 : Int32) (b5 : Int32)  (M : Mm), RW M → b0 = 323 → k220 b0 b1 b2 b3 b4 b5 M = some out → Zq M out.2 ∧ RW out.2) (a0 : Nat) (a1 : Int32) (a2 : Int32) (a3 : Int32) (a4 : Int32) (a5 : Int32)  (M : Mm) (hB : RW M) (ra0 : a0 = 323) (h : fX16_files_L269 fu k151 k220 a0 a1 a2 a3 a4 a5 M = some out) : Zq M out.2 ∧ RW out.2 := by
  unfold fX16_files_L269 at h
  have hS : Zq M M := Zq.rf
  have z := hk220 a0 a1 a2 a3 a4 (a5 + (1 : Int32)) M hB ra0 h
  exact ⟨hS.tr z.1, z.2⟩
theorem zX16_files_L220 (fu : Nat) {out : Int32 × Mm} (k151 : Nat → Int32 → Int32 → Mm → Option (Int32 × Mm)) (hk151 : ∀ (b0 : Nat) (b1 : Int32) (b2 : Int32)  (M : Mm), RW M → b0 = 323 → k151 b0 b1 b2 M = some out → Zq M out.2 ∧ RW out.2) : ∀ (n : Nat) (a0 : Nat) (a1 : Int32) (a2 : Int32) (a3 : Int32) (a4 : Int32) (a5 : Int32)  (M : Mm), RW M → a0 = 323 → fX16_files_L220 fu k151 n a0 a1 a2 a3 a4 a5 M = some out → Zq M out.2 ∧ RW out.2 := by
  intro n
  induction n with
  | zero =>
    intro a0 a1 a2 a3 a4 a5 M hB ra0 h
    have h : (none : Option (Int32 × Mm)) = some out := h
    cases h
  | succ n ih =>
    intro a0 a1 a2 a3 a4 a5 M hB ra0 h
    rw [fX16_files_L220] at h
    have hS : Zq M M := Zq.rf
    by_cases hc : (48 : Int32) ≤ a5
    · have h := (if_pos hc).symm.trans h
      obtain ⟨q1, eq1, h⟩ := bd h
      have rq1 := z_rc (z_some ra0) eq1
      obtain ⟨v3, M2, eM2, h⟩ := b2d h
      have w := zX16_imageWord fu q1 (a3 + (48 : Int32)) M hB rq1 eM2
      have hS := hS.tr w.1
      have hB := w.2
      obtain ⟨q4, eq4, h⟩ := bd h
      have rq4 := z_rc (z_some ra0) eq4
      obtain ⟨v6, M5, eM5, h⟩ := b2d h
      have w := zX16_imageWord fu q4 (a3 + (52 : Int32)) M2 hB rq4 eM5
      have hS := hS.tr w.1
      have hB := w.2
      obtain ⟨v7, ev7, h⟩ := bd h
      by_cases hc : 0 < (lg_cmp (v3 + v6) (Int32.toInt64 v7))
      · have h := (if_pos hc).symm.trans h
        obtain rfl := Option.some.inj h
        exact ⟨hS, hB⟩
      · have h := (if_neg hc).symm.trans h
        obtain ⟨q8, eq8, h⟩ := bd h
        have rq8 := z_rc (z_some ra0) eq8
        obtain ⟨v10, M9, eM9, h⟩ := b2d h
        have w := zX16_imageWord fu q8 (a3 + (60 : Int32)) M5 hB rq8 eM9
        have hS := hS.tr w.1
        have hB := w.2
        by_cases hc : (lg_cmp v10 (0 : Int64)) = 0
        · have h := (if_pos hc).symm.trans h
          have z := zX16_files_L319 fu k151 hk151 fu a0 a1 a2 a3 (0 : Int32) M9 hB ra0 h
          exact ⟨hS.tr z.1, z.2⟩
        · have h := (if_neg hc).symm.trans h
          obtain rfl := Option.some.inj h
          exact ⟨hS, hB⟩
    · have h := (if_neg hc).symm.trans h
      obtain ⟨v11, ev11, h⟩ := bd h
      obtain ⟨v12, ev12, h⟩ := bd h
      by_cases hc : a4 ≤ a5
      · have h := (if_pos hc).symm.trans h
        by_cases hc : v12 = 0
        · have h := (if_pos hc).symm.trans h
          have z := zX16_files_L269 fu k151 (fun b0 b1 b2 b3 b4 b5 M => fX16_files_L220 fu k151 n b0 b1 b2 b3 b4 b5 M) hk151 ih a0 a1 a2 a3 a4 a5 M hB ra0 h
          exact ⟨hS.tr z.1, z.2⟩
        · have h := (if_neg hc).symm.trans h
          obtain rfl := Option.some.inj h
          exact ⟨hS, hB⟩
      · have h := (if_neg hc).symm.trans h
        by_cases hc : v12 < (33 : Int32)
        · have h := (if_pos hc).symm.trans h
          obtain rfl := Option.some.inj h
          exact ⟨hS, hB⟩
        · have h := (if_neg hc).symm.trans h
          by_cases hc : v12 ≤ (126 : Int32)
          · have h := (if_pos hc).symm.trans h
            have z := zX16_files_L269 fu k151 (fun b0 b1 b2 b3 b4 b5 M => fX16_files_L220 fu k151 n b0 b1 b2 b3 b4 b5 M) hk151 ih a0 a1 a2 a3 a4 a5 M hB ra0 h
            exact ⟨hS.tr z.1, z.2⟩
          · have h := (if_neg hc).symm.trans h
            obtain rfl := Option.some.inj h
            exact ⟨hS, hB⟩
theorem zX16_files_L192 (fu : Nat) {out : Int32 × Mm} (k151 : Nat → Int32 → Int32 → Mm → Option (Int32 × Mm)) (hk151 : ∀ (b0 : Nat) (b1 : Int32) (b2 : Int32)  (M : Mm), RW M → b0 = 323 → k151 b0 b1 b2 M = some out → Zq M out.2 ∧ RW out.2) (a0 : Nat) (a1 : Int32) (a2 : Int32) (a3 : Int32) (a4 : Int32)  (M : Mm) (hB : RW M) (ra0 : a0 = 323) (h : fX16_files_L192 fu k151 a0 a1 a2 a3 a4 M = some out) : Zq M out.2 ∧ RW out.2 := by
  unfold fX16_files_L192 at h
  have hS : Zq M M := Zq.rf
  by_cases hc : a4 = 0
  · have h := (if_pos hc).symm.trans h
    obtain rfl := Option.some.inj h
    exact ⟨hS, hB⟩
  · have h := (if_neg hc).symm.trans h
    by_cases hc : a4 = (48 : Int32)
    · have h := (if_pos hc).symm.trans h
      obtain rfl := Option.some.inj h
      exact ⟨hS, hB⟩
    · have h := (if_neg hc).symm.trans h
      obtain ⟨v1, ev1, h⟩ := bd h
      obtain ⟨v2, ev2, h⟩ := bd h
      by_cases hc : v2 = (47 : Int32)
      · have h := (if_pos hc).symm.trans h
        have z := zX16_files_L220 fu k151 hk151 fu a0 a1 a2 a3 a4 (0 : Int32) M hB ra0 h
        exact ⟨hS.tr z.1, z.2⟩
      · have h := (if_neg hc).symm.trans h
        obtain rfl := Option.some.inj h
        exact ⟨hS, hB⟩
theorem zX16_files_L167 (fu : Nat) {out : Int32 × Mm} (k151 : Nat → Int32 → Int32 → Mm → Option (Int32 × Mm)) (hk151 : ∀ (b0 : Nat) (b1 : Int32) (b2 : Int32)  (M : Mm), RW M → b0 = 323 → k151 b0 b1 b2 M = some out → Zq M out.2 ∧ RW out.2) : ∀ (n : Nat) (a0 : Nat) (a1 : Int32) (a2 : Int32) (a3 : Int32) (a4 : Int32)  (M : Mm), RW M → a0 = 323 → fX16_files_L167 fu k151 n a0 a1 a2 a3 a4 M = some out → Zq M out.2 ∧ RW out.2 := by
  intro n
  induction n with
  | zero =>
    intro a0 a1 a2 a3 a4 M hB ra0 h
    have h : (none : Option (Int32 × Mm)) = some out := h
    cases h
  | succ n ih =>
    intro a0 a1 a2 a3 a4 M hB ra0 h
    rw [fX16_files_L167] at h
    have hS : Zq M M := Zq.rf
    by_cases hc : (48 : Int32) ≤ a4
    · have h := (if_pos hc).symm.trans h
      have z := zX16_files_L192 fu k151 hk151 a0 a1 a2 a3 a4 M hB ra0 h
      exact ⟨hS.tr z.1, z.2⟩
    · have h := (if_neg hc).symm.trans h
      obtain ⟨v1, ev1, h⟩ := bd h
      obtain ⟨v2, ev2, h⟩ := bd h
      by_cases hc : v2 = 0
      · have h := (if_pos hc).symm.trans h
        have z := zX16_files_L192 fu k151 hk151 a0 a1 a2 a3 a4 M hB ra0 h
        exact ⟨hS.tr z.1, z.2⟩
      · have h := (if_neg hc).symm.trans h
        have z := ih a0 a1 a2 a3 (a4 + (1 : Int32)) M hB ra0 h
        exact ⟨hS.tr z.1, z.2⟩
theorem zX16_files_L151 (fu : Nat) {out : Int32 × Mm}   : ∀ (n : Nat) (a0 : Nat) (a1 : Int32) (a2 : Int32)  (M : Mm), RW M → a0 = 323 → fX16_files_L151 fu  n a0 a1 a2 M = some out → Zq M out.2 ∧ RW out.2 := by
  intro n
  induction n with
  | zero =>
    intro a0 a1 a2 M hB ra0 h
    have h : (none : Option (Int32 × Mm)) = some out := h
    cases h
  | succ n ih =>
    intro a0 a1 a2 M hB ra0 h
    rw [fX16_files_L151] at h
    have hS : Zq M M := Zq.rf
    by_cases hc : a1 ≤ a2
    · have h := (if_pos hc).symm.trans h
      obtain rfl := Option.some.inj h
      exact ⟨hS, hB⟩
    · have h := (if_neg hc).symm.trans h
      have z := zX16_files_L167 fu (fun b0 b1 b2 M => fX16_files_L151 fu  n b0 b1 b2 M) ih fu a0 a1 a2 ((8 : Int32) + ((64 : Int32) * a2)) (0 : Int32) M hB ra0 h
      exact ⟨hS.tr z.1, z.2⟩
theorem zX16_files (fu : Nat)   (a0 : Nat)  (M : Mm) {out : Int32 × Mm} (hB : RW M) (ra0 : a0 = 323) (h : fX16_files fu  a0 M = some out) : Zq M out.2 ∧ RW out.2 := by
  unfold fX16_files at h
  have hS : Zq M M := Zq.rf
  obtain ⟨v1, ev1, h⟩ := bd h
  by_cases hc : v1 < (12 : Int32)
  · have h := (if_pos hc).symm.trans h
    obtain rfl := Option.some.inj h
    exact ⟨hS, hB⟩
  · have h := (if_neg hc).symm.trans h
    obtain ⟨v2, ev2, h⟩ := bd h
    obtain ⟨v3, ev3, h⟩ := bd h
    by_cases hc : v3 = (83 : Int32)
    · have h := (if_pos hc).symm.trans h
      obtain ⟨v4, ev4, h⟩ := bd h
      obtain ⟨v5, ev5, h⟩ := bd h
      by_cases hc : v5 = (84 : Int32)
      · have h := (if_pos hc).symm.trans h
        obtain ⟨v6, ev6, h⟩ := bd h
        obtain ⟨v7, ev7, h⟩ := bd h
        by_cases hc : v7 = (79 : Int32)
        · have h := (if_pos hc).symm.trans h
          obtain ⟨v8, ev8, h⟩ := bd h
          obtain ⟨v9, ev9, h⟩ := bd h
          by_cases hc : v9 = (82 : Int32)
          · have h := (if_pos hc).symm.trans h
            obtain ⟨v10, ev10, h⟩ := bd h
            obtain ⟨v11, ev11, h⟩ := bd h
            by_cases hc : v11 = 0
            · have h := (if_pos hc).symm.trans h
              obtain ⟨v12, ev12, h⟩ := bd h
              obtain ⟨v13, ev13, h⟩ := bd h
              by_cases hc : v13 = 0
              · have h := (if_pos hc).symm.trans h
                obtain ⟨v14, ev14, h⟩ := bd h
                obtain ⟨v15, ev15, h⟩ := bd h
                obtain ⟨v16, ev16, h⟩ := bd h
                obtain ⟨v17, ev17, h⟩ := bd h
                obtain ⟨v18, ev18, h⟩ := bd h
                by_cases hc : (64 : Int32) < v18
                · have h := (if_pos hc).symm.trans h
                  obtain rfl := Option.some.inj h
                  exact ⟨hS, hB⟩
                · have h := (if_neg hc).symm.trans h
                  obtain ⟨v19, ev19, h⟩ := bd h
                  by_cases hc : v19 < ((12 : Int32) + ((64 : Int32) * v18))
                  · have h := (if_pos hc).symm.trans h
                    obtain rfl := Option.some.inj h
                    exact ⟨hS, hB⟩
                  · have h := (if_neg hc).symm.trans h
                    obtain ⟨q20, eq20, h⟩ := bd h
                    have rq20 := z_rc (z_some ra0) eq20
                    obtain ⟨v22, M21, eM21, h⟩ := b2d h
                    have w := zX16_check fu q20 (0 : Int32) ((8 : Int32) + ((64 : Int32) * v18)) M hB rq20 eM21
                    have hS := hS.tr w.1
                    have hB := w.2
                    obtain ⟨q23, eq23, h⟩ := bd h
                    have rq23 := z_rc (z_some ra0) eq23
                    obtain ⟨v25, M24, eM24, h⟩ := b2d h
                    have w := zX16_imageWord fu q23 ((8 : Int32) + ((64 : Int32) * v18)) M21 hB rq23 eM24
                    have hS := hS.tr w.1
                    have hB := w.2
                    by_cases hc : v22 = (Int64.toInt32 v25)
                    · have h := (if_pos hc).symm.trans h
                      have z := zX16_files_L151 fu   fu a0 v18 (0 : Int32) M24 hB ra0 h
                      exact ⟨hS.tr z.1, z.2⟩
                    · have h := (if_neg hc).symm.trans h
                      obtain rfl := Option.some.inj h
                      exact ⟨hS, hB⟩
              · have h := (if_neg hc).symm.trans h
                obtain rfl := Option.some.inj h
                exact ⟨hS, hB⟩
            · have h := (if_neg hc).symm.trans h
              obtain rfl := Option.some.inj h
              exact ⟨hS, hB⟩
          · have h := (if_neg hc).symm.trans h
            obtain rfl := Option.some.inj h
            exact ⟨hS, hB⟩
        · have h := (if_neg hc).symm.trans h
          obtain rfl := Option.some.inj h
          exact ⟨hS, hB⟩
      · have h := (if_neg hc).symm.trans h
        obtain rfl := Option.some.inj h
        exact ⟨hS, hB⟩
    · have h := (if_neg hc).symm.trans h
      obtain rfl := Option.some.inj h
      exact ⟨hS, hB⟩
theorem zX16_net (fu : Nat)   (a0 : Nat) (a1 : Int32)  (M : Mm) {out : Int32 × Mm} (hB : RW M) (ra0 : a0 = 323) (h : fX16_net fu  a0 a1 M = some out) : Zq M out.2 ∧ RW out.2 := by
  unfold fX16_net at h
  have hS : Zq M M := Zq.rf
  obtain ⟨v1, ev1, h⟩ := bd h
  obtain ⟨v2, ev2, h⟩ := bd h
  obtain rfl := Option.some.inj h
  exact ⟨hS, hB⟩
theorem zX16_isHost (fu : Nat)   (a0 : Int32)  (M : Mm) {out : Int32 × Mm} (hB : RW M)  (h : fX16_isHost fu  a0 M = some out) : Zq M out.2 ∧ RW out.2 := by
  unfold fX16_isHost at h
  have hS : Zq M M := Zq.rf
  by_cases hc : (ushr a0 (24 : Int32)) < (1 : Int32)
  · have h := (if_pos hc).symm.trans h
    obtain ⟨hz, rfl⟩ := rN_some h
    exact ⟨hS, hB⟩
  · have h := (if_neg hc).symm.trans h
    by_cases hc : (223 : Int32) < (ushr a0 (24 : Int32))
    · have h := (if_pos hc).symm.trans h
      obtain ⟨hz, rfl⟩ := rN_some h
      exact ⟨hS, hB⟩
    · have h := (if_neg hc).symm.trans h
      by_cases hc : (ushr a0 (24 : Int32)) = (127 : Int32)
      · have h := (if_pos hc).symm.trans h
        obtain ⟨hz, rfl⟩ := rN_some h
        exact ⟨hS, hB⟩
      · have h := (if_neg hc).symm.trans h
        obtain ⟨hz, rfl⟩ := rN_some h
        exact ⟨hS, hB⟩
theorem zX16_put_L3 (fu : Nat) {out : Mm}   : ∀ (n : Nat) (a0 : Nat) (a1 : Int32) (a2 : Int32) (a3 : Int32) (a4 : Int32)  (M : Mm), RW M → a0 = 323 → fX16_put_L3 fu  n a0 a1 a2 a3 a4 M = some out → Zq M out ∧ RW out := by
  intro n
  induction n with
  | zero =>
    intro a0 a1 a2 a3 a4 M hB ra0 h
    have h : (none : Option (Mm)) = some out := h
    cases h
  | succ n ih =>
    intro a0 a1 a2 a3 a4 M hB ra0 h
    rw [fX16_put_L3] at h
    have hS : Zq M M := Zq.rf
    by_cases hc : a2 ≤ a4
    · have h := (if_pos hc).symm.trans h
      obtain rfl := Option.some.inj h
      exact ⟨hS, hB⟩
    · have h := (if_neg hc).symm.trans h
      obtain ⟨v1, ev1, h⟩ := bd h
      obtain ⟨M2, eM2, h⟩ := bd h
      have w := z_pA hB (by decide) eM2
      have hS := hS.tr w.1
      have hB := w.2
      have z := ih a0 a1 a2 a3 (a4 + (1 : Int32)) M2 hB ra0 h
      exact ⟨hS.tr z.1, z.2⟩
theorem zX16_put (fu : Nat)   (a0 : Nat) (a1 : Int32) (a2 : Int32) (a3 : Int32)  (M : Mm) {out : Mm} (hB : RW M) (ra0 : a0 = 323) (h : fX16_put fu  a0 a1 a2 a3 M = some out) : Zq M out ∧ RW out := by
  unfold fX16_put at h
  have hS : Zq M M := Zq.rf
  have z := zX16_put_L3 fu   fu a0 a1 a2 a3 (0 : Int32) M hB ra0 h
  exact ⟨hS.tr z.1, z.2⟩
theorem zX16_send_L116 (fu : Nat) {out : Mm}   : ∀ (n : Nat) (a0 : Nat) (a5 : Int32) (a6 : Int32) (a7 : Int32)  (M : Mm), RW M → a0 = 323 → fX16_send_L116 fu  n a0 a5 a6 a7 M = some out → Zq M out ∧ RW out := by
  intro n
  induction n with
  | zero =>
    intro a0 a5 a6 a7 M hB ra0 h
    have h : (none : Option (Mm)) = some out := h
    cases h
  | succ n ih =>
    intro a0 a5 a6 a7 M hB ra0 h
    rw [fX16_send_L116] at h
    have hS : Zq M M := Zq.rf
    by_cases hc : a5 ≤ a7
    · have h := (if_pos hc).symm.trans h
      obtain ⟨v1, ev1, h⟩ := bd h
      obtain ⟨M2, eM2, h⟩ := bd h
      have w := z_pK hB (z_gR hB ra0 (rw_g1045_323 hB) ev1) (by decide) eM2
      have hS := hS.tr w.1
      have hB := w.2
      obtain ⟨v3, ev3, h⟩ := bd h
      obtain ⟨v4, ev4, h⟩ := bd h
      obtain ⟨M5, eM5, h⟩ := bd h
      have w := z_pK hB (z_gR hB ra0 (rw_g1046_323 hB) ev3) (by decide) eM5
      have hS := hS.tr w.1
      have hB := w.2
      obtain ⟨v6, ev6, h⟩ := bd h
      obtain ⟨M7, eM7, h⟩ := bd h
      have w := z_pF hB eM7 (by decide)
      have hS := hS.tr w.1
      have hB := w.2
      obtain rfl := Option.some.inj h
      exact ⟨hS, hB⟩
    · have h := (if_neg hc).symm.trans h
      obtain ⟨v8, ev8, h⟩ := bd h
      obtain ⟨v9, ev9, h⟩ := bd h
      obtain ⟨v10, ev10, h⟩ := bd h
      obtain ⟨M11, eM11, h⟩ := bd h
      have w := z_pA hB (by decide) eM11
      have hS := hS.tr w.1
      have hB := w.2
      have z := ih a0 a5 a6 (a7 + (1 : Int32)) M11 hB ra0 h
      exact ⟨hS.tr z.1, z.2⟩
theorem zX16_send_L55 (fu : Nat) {out : Mm}   : ∀ (n : Nat) (a0 : Nat) (a5 : Int32) (a6 : Int32)  (M : Mm), RW M → a0 = 323 → fX16_send_L55 fu  n a0 a5 a6 M = some out → Zq M out ∧ RW out := by
  intro n
  induction n with
  | zero =>
    intro a0 a5 a6 M hB ra0 h
    have h : (none : Option (Mm)) = some out := h
    cases h
  | succ n ih =>
    intro a0 a5 a6 M hB ra0 h
    rw [fX16_send_L55] at h
    have hS : Zq M M := Zq.rf
    by_cases hc : (60 : Int32) ≤ a6
    · have h := (if_pos hc).symm.trans h
      by_cases hc : (jmax a5 (60 : Int32)) ≤ (1514 : Int32)
      · have h := (if_pos hc).symm.trans h
        obtain ⟨v1, ev1, h⟩ := bd h
        have z := zX16_send_L116 fu   fu a0 (jmax a5 (60 : Int32)) (irm v1 (32 : Int32)) (0 : Int32) M hB ra0 h
        exact ⟨hS.tr z.1, z.2⟩
      · have h := (if_neg hc).symm.trans h
        obtain ⟨v2, ev2, h⟩ := bd h
        obtain ⟨M3, eM3, h⟩ := bd h
        have w := z_pF hB eM3 (by decide)
        have hS := hS.tr w.1
        have hB := w.2
        obtain rfl := Option.some.inj h
        exact ⟨hS, hB⟩
    · have h := (if_neg hc).symm.trans h
      obtain ⟨v4, ev4, h⟩ := bd h
      obtain ⟨M5, eM5, h⟩ := bd h
      have w := z_pA hB (by decide) eM5
      have hS := hS.tr w.1
      have hB := w.2
      have z := ih a0 a5 (a6 + (1 : Int32)) M5 hB ra0 h
      exact ⟨hS.tr z.1, z.2⟩
theorem zX16_send (fu : Nat)   (a0 : Nat) (a1 : Int32) (a2 : Int32) (a3 : Int32) (a4 : Int32)  (M : Mm) {out : Mm} (hB : RW M) (ra0 : a0 = 323) (h : fX16_send fu  a0 a1 a2 a3 a4 M = some out) : Zq M out ∧ RW out := by
  unfold fX16_send at h
  have hS : Zq M M := Zq.rf
  obtain ⟨q1, eq1, h⟩ := bd h
  have rq1 := z_rc (z_some ra0) eq1
  obtain ⟨M2, eM2, h⟩ := bd h
  have w := zX16_put fu q1 (0 : Int32) (2 : Int32) a1 M hB rq1 eM2
  have hS := hS.tr w.1
  have hB := w.2
  obtain ⟨q3, eq3, h⟩ := bd h
  have rq3 := z_rc (z_some ra0) eq3
  obtain ⟨M4, eM4, h⟩ := bd h
  have w := zX16_put fu q3 (2 : Int32) (4 : Int32) a2 M2 hB rq3 eM4
  have hS := hS.tr w.1
  have hB := w.2
  obtain ⟨v5, ev5, h⟩ := bd h
  obtain ⟨q6, eq6, h⟩ := bd h
  have rq6 := z_rc (z_some ra0) eq6
  obtain ⟨M7, eM7, h⟩ := bd h
  have w := zX16_put fu q6 (6 : Int32) (2 : Int32) v5 M4 hB rq6 eM7
  have hS := hS.tr w.1
  have hB := w.2
  obtain ⟨v8, ev8, h⟩ := bd h
  obtain ⟨q9, eq9, h⟩ := bd h
  have rq9 := z_rc (z_some ra0) eq9
  obtain ⟨M10, eM10, h⟩ := bd h
  have w := zX16_put fu q9 (8 : Int32) (4 : Int32) v8 M7 hB rq9 eM10
  have hS := hS.tr w.1
  have hB := w.2
  obtain ⟨q11, eq11, h⟩ := bd h
  have rq11 := z_rc (z_some ra0) eq11
  obtain ⟨M12, eM12, h⟩ := bd h
  have w := zX16_put fu q11 (12 : Int32) (2 : Int32) a3 M10 hB rq11 eM12
  have hS := hS.tr w.1
  have hB := w.2
  have z := zX16_send_L55 fu   fu a0 ((14 : Int32) + a4) ((14 : Int32) + a4) M12 hB ra0 h
  exact ⟨hS.tr z.1, z.2⟩
theorem zX16_sixteen_L2 (fu : Nat) {out : Int32 × Mm}   : ∀ (n : Nat) (a2 : Int64)  (M : Mm), RW M → fX16_sixteen_L2 fu  n a2 M = some out → Zq M out.2 ∧ RW out.2 := by
  intro n
  induction n with
  | zero =>
    intro a2 M hB  h
    have h : (none : Option (Int32 × Mm)) = some out := h
    cases h
  | succ n ih =>
    intro a2 M hB  h
    rw [fX16_sixteen_L2] at h
    have hS : Zq M M := Zq.rf
    by_cases hc : (lg_cmp a2 (65535 : Int64)) ≤ 0
    · have h := (if_pos hc).symm.trans h
      obtain rfl := Option.some.inj h
      exact ⟨hS, hB⟩
    · have h := (if_neg hc).symm.trans h
      obtain ⟨v1, ev1, h⟩ := bd h
      have z := ih v1 M hB  h
      exact ⟨hS.tr z.1, z.2⟩
theorem zX16_sixteen (fu : Nat)   (a0 : Int64)  (M : Mm) {out : Int32 × Mm} (hB : RW M)  (h : fX16_sixteen fu  a0 M = some out) : Zq M out.2 ∧ RW out.2 := by
  unfold fX16_sixteen at h
  have hS : Zq M M := Zq.rf
  have z := zX16_sixteen_L2 fu   fu a0 M hB  h
  exact ⟨hS.tr z.1, z.2⟩
theorem zX16_added_L37 (fu : Nat) {out : Int64 × Mm} (k6 : Option Nat → Int32 → Int32 → Int64 → Int32 → Mm → Option (Int64 × Mm)) (hk6 : ∀ (b0 : Option Nat) (b1 : Int32) (b2 : Int32) (b5 : Int64) (b7 : Int32)  (M : Mm), RW M → k6 b0 b1 b2 b5 b7 M = some out → Zq M out.2 ∧ RW out.2) (a0 : Option Nat) (a1 : Int32) (a2 : Int32) (a7 : Int32) (s0 : Int64) (s1 : Int32) (s2 : Int32) (M : Mm) (hB : RW M)  (h : fX16_added_L37 fu k6 a0 a1 a2 a7 s0 s1 s2 M = some out) : Zq M out.2 ∧ RW out.2 := by
  unfold fX16_added_L37 at h
  have hS : Zq M M := Zq.rf
  obtain ⟨v1, ev1, h⟩ := bd h
  have z := hk6 a0 a1 a2 v1 (a7 + (1 : Int32)) M hB  h
  exact ⟨hS.tr z.1, z.2⟩
theorem zX16_added_L6 (fu : Nat) {out : Int64 × Mm}   : ∀ (n : Nat) (a0 : Option Nat) (a1 : Int32) (a2 : Int32) (a5 : Int64) (a7 : Int32)  (M : Mm), RW M → fX16_added_L6 fu  n a0 a1 a2 a5 a7 M = some out → Zq M out.2 ∧ RW out.2 := by
  intro n
  induction n with
  | zero =>
    intro a0 a1 a2 a5 a7 M hB  h
    have h : (none : Option (Int64 × Mm)) = some out := h
    cases h
  | succ n ih =>
    intro a0 a1 a2 a5 a7 M hB  h
    rw [fX16_added_L6] at h
    have hS : Zq M M := Zq.rf
    by_cases hc : a2 ≤ a7
    · have h := (if_pos hc).symm.trans h
      obtain rfl := Option.some.inj h
      exact ⟨hS, hB⟩
    · have h := (if_neg hc).symm.trans h
      obtain ⟨v1, ev1, h⟩ := bd h
      by_cases hc : (irm a7 (2 : Int32)) = 0
      · have h := (if_pos hc).symm.trans h
        have z := zX16_added_L37 fu (fun b0 b1 b2 b5 b7 M => fX16_added_L6 fu  n b0 b1 b2 b5 b7 M) ih a0 a1 a2 a7 a5 (v1 &&& (255 : Int32)) (8 : Int32) M hB  h
        exact ⟨hS.tr z.1, z.2⟩
      · have h := (if_neg hc).symm.trans h
        have z := zX16_added_L37 fu (fun b0 b1 b2 b5 b7 M => fX16_added_L6 fu  n b0 b1 b2 b5 b7 M) ih a0 a1 a2 a7 a5 (v1 &&& (255 : Int32)) (0 : Int32) M hB  h
        exact ⟨hS.tr z.1, z.2⟩
theorem zX16_added (fu : Nat)   (a0 : Option Nat) (a1 : Int32) (a2 : Int32) (a3 : Int64)  (M : Mm) {out : Int64 × Mm} (hB : RW M)  (h : fX16_added fu  a0 a1 a2 a3 M = some out) : Zq M out.2 ∧ RW out.2 := by
  unfold fX16_added at h
  have hS : Zq M M := Zq.rf
  have z := zX16_added_L6 fu   fu a0 a1 a2 a3 (0 : Int32) M hB  h
  exact ⟨hS.tr z.1, z.2⟩
theorem zX16_entry_L40 (fu : Nat) {out : Option Nat × Mm} (k2 : Nat → Int32 → Int32 → Mm → Option (Option Nat × Mm)) (hk2 : ∀ (b0 : Nat) (b1 : Int32) (b2 : Int32)  (M : Mm), RW M → b0 = 323 → k2 b0 b1 b2 M = some out → Zq M out.2 ∧ RW out.2) (a0 : Nat) (a1 : Int32) (a2 : Int32)  (M : Mm) (hB : RW M) (ra0 : a0 = 323) (h : fX16_entry_L40 fu k2 a0 a1 a2 M = some out) : Zq M out.2 ∧ RW out.2 := by
  unfold fX16_entry_L40 at h
  have hS : Zq M M := Zq.rf
  have z := hk2 a0 a1 (a2 + (1 : Int32)) M hB ra0 h
  exact ⟨hS.tr z.1, z.2⟩
theorem zX16_entry_L2 (fu : Nat) {out : Option Nat × Mm}   : ∀ (n : Nat) (a0 : Nat) (a1 : Int32) (a2 : Int32)  (M : Mm), RW M → a0 = 323 → fX16_entry_L2 fu  n a0 a1 a2 M = some out → Zq M out.2 ∧ RW out.2 := by
  intro n
  induction n with
  | zero =>
    intro a0 a1 a2 M hB ra0 h
    have h : (none : Option (Option Nat × Mm)) = some out := h
    cases h
  | succ n ih =>
    intro a0 a1 a2 M hB ra0 h
    rw [fX16_entry_L2] at h
    have hS : Zq M M := Zq.rf
    by_cases hc : (16 : Int32) ≤ a2
    · have h := (if_pos hc).symm.trans h
      obtain rfl := Option.some.inj h
      exact ⟨hS, hB⟩
    · have h := (if_neg hc).symm.trans h
      obtain ⟨v1, ev1, h⟩ := bd h
      obtain ⟨v2, ev2, h⟩ := bd h
      obtain ⟨v3, ev3, h⟩ := bd h
      by_cases hc : v3 = 0
      · have h := (if_pos hc).symm.trans h
        have z := zX16_entry_L40 fu (fun b0 b1 b2 M => fX16_entry_L2 fu  n b0 b1 b2 M) ih a0 a1 a2 M hB ra0 h
        exact ⟨hS.tr z.1, z.2⟩
      · have h := (if_neg hc).symm.trans h
        obtain ⟨v4, ev4, h⟩ := bd h
        obtain ⟨v5, ev5, h⟩ := bd h
        obtain ⟨v6, ev6, h⟩ := bd h
        by_cases hc : v6 = a1
        · have h := (if_pos hc).symm.trans h
          obtain ⟨v7, ev7, h⟩ := bd h
          obtain ⟨v8, ev8, h⟩ := bd h
          obtain rfl := Option.some.inj h
          exact ⟨hS, hB⟩
        · have h := (if_neg hc).symm.trans h
          have z := zX16_entry_L40 fu (fun b0 b1 b2 M => fX16_entry_L2 fu  n b0 b1 b2 M) ih a0 a1 a2 M hB ra0 h
          exact ⟨hS.tr z.1, z.2⟩
theorem zX16_entry (fu : Nat)   (a0 : Nat) (a1 : Int32)  (M : Mm) {out : Option Nat × Mm} (hB : RW M) (ra0 : a0 = 323) (h : fX16_entry fu  a0 a1 M = some out) : Zq M out.2 ∧ RW out.2 := by
  unfold fX16_entry at h
  have hS : Zq M M := Zq.rf
  have z := zX16_entry_L2 fu   fu a0 a1 (0 : Int32) M hB ra0 h
  exact ⟨hS.tr z.1, z.2⟩
theorem zX16_counting (fu : Nat)   (a0 : Nat) (a1 : Int32)  (M : Mm) {out : Option Nat × Mm} (hB : RW M) (ra0 : a0 = 323) (h : fX16_counting fu  a0 a1 M = some out) : Zq M out.2 ∧ RW out.2 := by
  unfold fX16_counting at h
  have hS : Zq M M := Zq.rf
  obtain ⟨q1, eq1, h⟩ := bd h
  have rq1 := z_rc (z_some ra0) eq1
  obtain ⟨v3, M2, eM2, h⟩ := b2d h
  have w := zX16_entry fu q1 a1 M hB rq1 eM2
  have hS := hS.tr w.1
  have hB := w.2
  by_cases hc : v3 = none
  · have h := (if_pos hc).symm.trans h
    obtain rfl := Option.some.inj h
    exact ⟨hS, hB⟩
  · have h := (if_neg hc).symm.trans h
    obtain ⟨v4, ev4, h⟩ := bd h
    obtain ⟨v5, ev5, h⟩ := bd h
    by_cases hc : (60000 : Int32) ≤ (v4 - v5)
    · have h := (if_pos hc).symm.trans h
      obtain rfl := Option.some.inj h
      exact ⟨hS, hB⟩
    · have h := (if_neg hc).symm.trans h
      obtain rfl := Option.some.inj h
      exact ⟨hS, hB⟩
theorem zX16_packet_L40 (fu : Nat) {out : Option Nat × Mm} (k2 : Nat → Int32 → Int32 → Mm → Option (Option Nat × Mm)) (hk2 : ∀ (b0 : Nat) (b1 : Int32) (b2 : Int32)  (M : Mm), RW M → b0 = 323 → k2 b0 b1 b2 M = some out → Zq M out.2 ∧ RW out.2) (a0 : Nat) (a1 : Int32) (a2 : Int32)  (M : Mm) (hB : RW M) (ra0 : a0 = 323) (h : fX16_packet_L40 fu k2 a0 a1 a2 M = some out) : Zq M out.2 ∧ RW out.2 := by
  unfold fX16_packet_L40 at h
  have hS : Zq M M := Zq.rf
  have z := hk2 a0 a1 (a2 + (1 : Int32)) M hB ra0 h
  exact ⟨hS.tr z.1, z.2⟩
theorem zX16_packet_L2 (fu : Nat) {out : Option Nat × Mm}   : ∀ (n : Nat) (a0 : Nat) (a1 : Int32) (a2 : Int32)  (M : Mm), RW M → a0 = 323 → fX16_packet_L2 fu  n a0 a1 a2 M = some out → Zq M out.2 ∧ RW out.2 := by
  intro n
  induction n with
  | zero =>
    intro a0 a1 a2 M hB ra0 h
    have h : (none : Option (Option Nat × Mm)) = some out := h
    cases h
  | succ n ih =>
    intro a0 a1 a2 M hB ra0 h
    rw [fX16_packet_L2] at h
    have hS : Zq M M := Zq.rf
    by_cases hc : (8 : Int32) ≤ a2
    · have h := (if_pos hc).symm.trans h
      obtain rfl := Option.some.inj h
      exact ⟨hS, hB⟩
    · have h := (if_neg hc).symm.trans h
      obtain ⟨v1, ev1, h⟩ := bd h
      obtain ⟨v2, ev2, h⟩ := bd h
      obtain ⟨v3, ev3, h⟩ := bd h
      by_cases hc : v3 = 0
      · have h := (if_pos hc).symm.trans h
        have z := zX16_packet_L40 fu (fun b0 b1 b2 M => fX16_packet_L2 fu  n b0 b1 b2 M) ih a0 a1 a2 M hB ra0 h
        exact ⟨hS.tr z.1, z.2⟩
      · have h := (if_neg hc).symm.trans h
        obtain ⟨v4, ev4, h⟩ := bd h
        obtain ⟨v5, ev5, h⟩ := bd h
        obtain ⟨v6, ev6, h⟩ := bd h
        by_cases hc : v6 = a1
        · have h := (if_pos hc).symm.trans h
          obtain ⟨v7, ev7, h⟩ := bd h
          obtain ⟨v8, ev8, h⟩ := bd h
          obtain rfl := Option.some.inj h
          exact ⟨hS, hB⟩
        · have h := (if_neg hc).symm.trans h
          have z := zX16_packet_L40 fu (fun b0 b1 b2 M => fX16_packet_L2 fu  n b0 b1 b2 M) ih a0 a1 a2 M hB ra0 h
          exact ⟨hS.tr z.1, z.2⟩
theorem zX16_packet (fu : Nat)   (a0 : Nat) (a1 : Int32)  (M : Mm) {out : Option Nat × Mm} (hB : RW M) (ra0 : a0 = 323) (h : fX16_packet fu  a0 a1 M = some out) : Zq M out.2 ∧ RW out.2 := by
  unfold fX16_packet at h
  have hS : Zq M M := Zq.rf
  have z := zX16_packet_L2 fu   fu a0 a1 (0 : Int32) M hB ra0 h
  exact ⟨hS.tr z.1, z.2⟩
theorem zX16_remember_L151 (fu : Nat) {out : Mm}   : ∀ (n : Nat) (a0 : Nat) (a2 : Int32) (a3 : Int32) (a5 : Option Nat) (a6 : Int32)  (M : Mm), RW M → a0 = 323 → fX16_remember_L151 fu  n a0 a2 a3 a5 a6 M = some out → Zq M out ∧ RW out := by
  intro n
  induction n with
  | zero =>
    intro a0 a2 a3 a5 a6 M hB ra0 h
    have h : (none : Option (Mm)) = some out := h
    cases h
  | succ n ih =>
    intro a0 a2 a3 a5 a6 M hB ra0 h
    rw [fX16_remember_L151] at h
    have hS : Zq M M := Zq.rf
    obtain ⟨v1, ev1, h⟩ := bd h
    by_cases hc : v1 ≤ a6
    · have h := (if_pos hc).symm.trans h
      obtain ⟨v2, ev2, h⟩ := bd h
      obtain ⟨q3, eq3, h⟩ := bd h
      have rq3 := z_rc (z_some ra0) eq3
      obtain ⟨M4, eM4, h⟩ := bd h
      have w := zX16_send fu q3 a2 a3 (2048 : Int32) v2 M hB rq3 eM4
      have hS := hS.tr w.1
      have hB := w.2
      obtain rfl := Option.some.inj h
      exact ⟨hS, hB⟩
    · have h := (if_neg hc).symm.trans h
      obtain ⟨v5, ev5, h⟩ := bd h
      obtain ⟨v6, ev6, h⟩ := bd h
      obtain ⟨v7, ev7, h⟩ := bd h
      obtain ⟨M8, eM8, h⟩ := bd h
      have w := z_pA hB (by decide) eM8
      have hS := hS.tr w.1
      have hB := w.2
      have z := ih a0 a2 a3 a5 (a6 + (1 : Int32)) M8 hB ra0 h
      exact ⟨hS.tr z.1, z.2⟩
theorem zX16_remember_L96 (fu : Nat)   (a0 : Nat) (a1 : Int32) (a2 : Int32) (a3 : Int32) (a4 : Option Nat)  (M : Mm) {out : Mm} (hB : RW M) (ra0 : a0 = 323) (h : fX16_remember_L96 fu  a0 a1 a2 a3 a4 M = some out) : Zq M out ∧ RW out := by
  unfold fX16_remember_L96 at h
  have hS : Zq M M := Zq.rf
  obtain ⟨M1, eM1, h⟩ := bd h
  have w := z_pZ hB eM1 (by decide)
  have hS := hS.tr w.1
  have hB := w.2
  obtain ⟨M2, eM2, h⟩ := bd h
  have w := z_pF hB eM2 (by decide)
  have hS := hS.tr w.1
  have hB := w.2
  obtain ⟨M3, eM3, h⟩ := bd h
  have w := z_pF hB eM3 (by decide)
  have hS := hS.tr w.1
  have hB := w.2
  obtain ⟨M4, eM4, h⟩ := bd h
  have w := z_pF hB eM4 (by decide)
  have hS := hS.tr w.1
  have hB := w.2
  obtain ⟨v5, ev5, h⟩ := bd h
  obtain ⟨M6, eM6, h⟩ := bd h
  have w := z_pF hB eM6 (by decide)
  have hS := hS.tr w.1
  have hB := w.2
  obtain ⟨q7, eq7, h⟩ := bd h
  have rq7 := z_rc (z_some ra0) eq7
  obtain ⟨v9, M8, eM8, h⟩ := b2d h
  have w := zX16_packet fu q7 a1 M6 hB rq7 eM8
  have hS := hS.tr w.1
  have hB := w.2
  by_cases hc : v9 = none
  · have h := (if_pos hc).symm.trans h
    obtain rfl := Option.some.inj h
    exact ⟨hS, hB⟩
  · have h := (if_neg hc).symm.trans h
    obtain ⟨M10, eM10, h⟩ := bd h
    have w := z_pZ hB eM10 (by decide)
    have hS := hS.tr w.1
    have hB := w.2
    have z := zX16_remember_L151 fu   fu a0 a2 a3 v9 (0 : Int32) M10 hB ra0 h
    exact ⟨hS.tr z.1, z.2⟩
theorem zX16_remember_L90 (fu : Nat) {out : Mm} (k23 : Nat → Int32 → Int32 → Int32 → Option Nat → Int32 → Mm → Option (Mm)) (hk23 : ∀ (b0 : Nat) (b1 : Int32) (b2 : Int32) (b3 : Int32) (b4 : Option Nat) (b5 : Int32)  (M : Mm), RW M → b0 = 323 → k23 b0 b1 b2 b3 b4 b5 M = some out → Zq M out ∧ RW out) (a0 : Nat) (a1 : Int32) (a2 : Int32) (a3 : Int32) (a4 : Option Nat) (a5 : Int32)  (M : Mm) (hB : RW M) (ra0 : a0 = 323) (h : fX16_remember_L90 fu k23 a0 a1 a2 a3 a4 a5 M = some out) : Zq M out ∧ RW out := by
  unfold fX16_remember_L90 at h
  have hS : Zq M M := Zq.rf
  have z := hk23 a0 a1 a2 a3 a4 (a5 + (1 : Int32)) M hB ra0 h
  exact ⟨hS.tr z.1, z.2⟩
theorem zX16_remember_L81 (fu : Nat) {out : Mm} (k23 : Nat → Int32 → Int32 → Int32 → Option Nat → Int32 → Mm → Option (Mm)) (hk23 : ∀ (b0 : Nat) (b1 : Int32) (b2 : Int32) (b3 : Int32) (b4 : Option Nat) (b5 : Int32)  (M : Mm), RW M → b0 = 323 → k23 b0 b1 b2 b3 b4 b5 M = some out → Zq M out ∧ RW out) (a0 : Nat) (a1 : Int32) (a2 : Int32) (a3 : Int32) (a5 : Int32)  (M : Mm) (hB : RW M) (ra0 : a0 = 323) (h : fX16_remember_L81 fu k23 a0 a1 a2 a3 a5 M = some out) : Zq M out ∧ RW out := by
  unfold fX16_remember_L81 at h
  have hS : Zq M M := Zq.rf
  obtain ⟨v1, ev1, h⟩ := bd h
  obtain ⟨v2, ev2, h⟩ := bd h
  have z := zX16_remember_L90 fu k23 hk23 a0 a1 a2 a3 v2 a5 M hB ra0 h
  exact ⟨hS.tr z.1, z.2⟩
theorem zX16_remember_L48 (fu : Nat) {out : Mm} (k23 : Nat → Int32 → Int32 → Int32 → Option Nat → Int32 → Mm → Option (Mm)) (hk23 : ∀ (b0 : Nat) (b1 : Int32) (b2 : Int32) (b3 : Int32) (b4 : Option Nat) (b5 : Int32)  (M : Mm), RW M → b0 = 323 → k23 b0 b1 b2 b3 b4 b5 M = some out → Zq M out ∧ RW out) (a0 : Nat) (a1 : Int32) (a2 : Int32) (a3 : Int32) (a4 : Option Nat) (a5 : Int32) (s0 : Int32) (M : Mm) (hB : RW M) (ra0 : a0 = 323) (h : fX16_remember_L48 fu k23 a0 a1 a2 a3 a4 a5 s0 M = some out) : Zq M out ∧ RW out := by
  unfold fX16_remember_L48 at h
  have hS : Zq M M := Zq.rf
  obtain ⟨v1, ev1, h⟩ := bd h
  by_cases hc : v1 = 0
  · have h := (if_pos hc).symm.trans h
    have z := zX16_remember_L90 fu k23 hk23 a0 a1 a2 a3 a4 a5 M hB ra0 h
    exact ⟨hS.tr z.1, z.2⟩
  · have h := (if_neg hc).symm.trans h
    by_cases hc : s0 = 0
    · have h := (if_pos hc).symm.trans h
      obtain ⟨v2, ev2, h⟩ := bd h
      obtain ⟨v3, ev3, h⟩ := bd h
      obtain ⟨v4, ev4, h⟩ := bd h
      obtain ⟨v5, ev5, h⟩ := bd h
      by_cases hc : v5 ≤ v4
      · have h := (if_pos hc).symm.trans h
        have z := zX16_remember_L90 fu k23 hk23 a0 a1 a2 a3 a4 a5 M hB ra0 h
        exact ⟨hS.tr z.1, z.2⟩
      · have h := (if_neg hc).symm.trans h
        have z := zX16_remember_L81 fu k23 hk23 a0 a1 a2 a3 a5 M hB ra0 h
        exact ⟨hS.tr z.1, z.2⟩
    · have h := (if_neg hc).symm.trans h
      have z := zX16_remember_L81 fu k23 hk23 a0 a1 a2 a3 a5 M hB ra0 h
      exact ⟨hS.tr z.1, z.2⟩
theorem zX16_remember_L23 (fu : Nat) {out : Mm}   : ∀ (n : Nat) (a0 : Nat) (a1 : Int32) (a2 : Int32) (a3 : Int32) (a4 : Option Nat) (a5 : Int32)  (M : Mm), RW M → a0 = 323 → fX16_remember_L23 fu  n a0 a1 a2 a3 a4 a5 M = some out → Zq M out ∧ RW out := by
  intro n
  induction n with
  | zero =>
    intro a0 a1 a2 a3 a4 a5 M hB ra0 h
    have h : (none : Option (Mm)) = some out := h
    cases h
  | succ n ih =>
    intro a0 a1 a2 a3 a4 a5 M hB ra0 h
    rw [fX16_remember_L23] at h
    have hS : Zq M M := Zq.rf
    by_cases hc : (16 : Int32) ≤ a5
    · have h := (if_pos hc).symm.trans h
      have z := zX16_remember_L96 fu   a0 a1 a2 a3 a4 M hB ra0 h
      exact ⟨hS.tr z.1, z.2⟩
    · have h := (if_neg hc).symm.trans h
      obtain ⟨v1, ev1, h⟩ := bd h
      obtain ⟨v2, ev2, h⟩ := bd h
      obtain ⟨v3, ev3, h⟩ := bd h
      by_cases hc : v3 = 0
      · have h := (if_pos hc).symm.trans h
        have z := zX16_remember_L48 fu (fun b0 b1 b2 b3 b4 b5 M => fX16_remember_L23 fu  n b0 b1 b2 b3 b4 b5 M) ih a0 a1 a2 a3 a4 a5 (1 : Int32) M hB ra0 h
        exact ⟨hS.tr z.1, z.2⟩
      · have h := (if_neg hc).symm.trans h
        have z := zX16_remember_L48 fu (fun b0 b1 b2 b3 b4 b5 M => fX16_remember_L23 fu  n b0 b1 b2 b3 b4 b5 M) ih a0 a1 a2 a3 a4 a5 (0 : Int32) M hB ra0 h
        exact ⟨hS.tr z.1, z.2⟩
theorem zX16_remember (fu : Nat)   (a0 : Nat) (a1 : Int32) (a2 : Int32) (a3 : Int32)  (M : Mm) {out : Mm} (hB : RW M) (ra0 : a0 = 323) (h : fX16_remember fu  a0 a1 a2 a3 M = some out) : Zq M out ∧ RW out := by
  unfold fX16_remember at h
  have hS : Zq M M := Zq.rf
  obtain ⟨q1, eq1, h⟩ := bd h
  have rq1 := z_rc (z_some ra0) eq1
  obtain ⟨v3, M2, eM2, h⟩ := b2d h
  have w := zX16_entry fu q1 a1 M hB rq1 eM2
  have hS := hS.tr w.1
  have hB := w.2
  by_cases hc : v3 = none
  · have h := (if_pos hc).symm.trans h
    obtain ⟨v4, ev4, h⟩ := bd h
    obtain ⟨v5, ev5, h⟩ := bd h
    have z := zX16_remember_L23 fu   fu a0 a1 a2 a3 v5 (1 : Int32) M2 hB ra0 h
    exact ⟨hS.tr z.1, z.2⟩
  · have h := (if_neg hc).symm.trans h
    have z := zX16_remember_L96 fu   a0 a1 a2 a3 v3 M2 hB ra0 h
    exact ⟨hS.tr z.1, z.2⟩
theorem zX16_arpFrame (fu : Nat)   (a0 : Nat) (a1 : Int32) (a2 : Int32) (a3 : Int32) (a4 : Int32) (a5 : Int32) (a6 : Int32)  (M : Mm) {out : Mm} (hB : RW M) (ra0 : a0 = 323) (h : fX16_arpFrame fu  a0 a1 a2 a3 a4 a5 a6 M = some out) : Zq M out ∧ RW out := by
  unfold fX16_arpFrame at h
  have hS : Zq M M := Zq.rf
  obtain ⟨q1, eq1, h⟩ := bd h
  have rq1 := z_rc (z_some ra0) eq1
  obtain ⟨M2, eM2, h⟩ := bd h
  have w := zX16_put fu q1 (14 : Int32) (4 : Int32) (67584 : Int32) M hB rq1 eM2
  have hS := hS.tr w.1
  have hB := w.2
  obtain ⟨q3, eq3, h⟩ := bd h
  have rq3 := z_rc (z_some ra0) eq3
  obtain ⟨M4, eM4, h⟩ := bd h
  have w := zX16_put fu q3 (18 : Int32) (2 : Int32) (1540 : Int32) M2 hB rq3 eM4
  have hS := hS.tr w.1
  have hB := w.2
  obtain ⟨q5, eq5, h⟩ := bd h
  have rq5 := z_rc (z_some ra0) eq5
  obtain ⟨M6, eM6, h⟩ := bd h
  have w := zX16_put fu q5 (20 : Int32) (2 : Int32) a1 M4 hB rq5 eM6
  have hS := hS.tr w.1
  have hB := w.2
  obtain ⟨v7, ev7, h⟩ := bd h
  obtain ⟨q8, eq8, h⟩ := bd h
  have rq8 := z_rc (z_some ra0) eq8
  obtain ⟨M9, eM9, h⟩ := bd h
  have w := zX16_put fu q8 (22 : Int32) (2 : Int32) v7 M6 hB rq8 eM9
  have hS := hS.tr w.1
  have hB := w.2
  obtain ⟨v10, ev10, h⟩ := bd h
  obtain ⟨q11, eq11, h⟩ := bd h
  have rq11 := z_rc (z_some ra0) eq11
  obtain ⟨M12, eM12, h⟩ := bd h
  have w := zX16_put fu q11 (24 : Int32) (4 : Int32) v10 M9 hB rq11 eM12
  have hS := hS.tr w.1
  have hB := w.2
  obtain ⟨v13, ev13, h⟩ := bd h
  obtain ⟨q14, eq14, h⟩ := bd h
  have rq14 := z_rc (z_some ra0) eq14
  obtain ⟨M15, eM15, h⟩ := bd h
  have w := zX16_put fu q14 (28 : Int32) (4 : Int32) v13 M12 hB rq14 eM15
  have hS := hS.tr w.1
  have hB := w.2
  obtain ⟨q16, eq16, h⟩ := bd h
  have rq16 := z_rc (z_some ra0) eq16
  obtain ⟨M17, eM17, h⟩ := bd h
  have w := zX16_put fu q16 (32 : Int32) (2 : Int32) a4 M15 hB rq16 eM17
  have hS := hS.tr w.1
  have hB := w.2
  obtain ⟨q18, eq18, h⟩ := bd h
  have rq18 := z_rc (z_some ra0) eq18
  obtain ⟨M19, eM19, h⟩ := bd h
  have w := zX16_put fu q18 (34 : Int32) (4 : Int32) a5 M17 hB rq18 eM19
  have hS := hS.tr w.1
  have hB := w.2
  obtain ⟨q20, eq20, h⟩ := bd h
  have rq20 := z_rc (z_some ra0) eq20
  obtain ⟨M21, eM21, h⟩ := bd h
  have w := zX16_put fu q20 (38 : Int32) (4 : Int32) a6 M19 hB rq20 eM21
  have hS := hS.tr w.1
  have hB := w.2
  obtain ⟨q22, eq22, h⟩ := bd h
  have rq22 := z_rc (z_some ra0) eq22
  obtain ⟨M23, eM23, h⟩ := bd h
  have w := zX16_send fu q22 a2 a3 (2054 : Int32) (28 : Int32) M21 hB rq22 eM23
  have hS := hS.tr w.1
  have hB := w.2
  obtain rfl := Option.some.inj h
  exact ⟨hS, hB⟩
theorem zX16_ask (fu : Nat)   (a0 : Nat) (a1 : Int32)  (M : Mm) {out : Mm} (hB : RW M) (ra0 : a0 = 323) (h : fX16_ask fu  a0 a1 M = some out) : Zq M out ∧ RW out := by
  unfold fX16_ask at h
  have hS : Zq M M := Zq.rf
  obtain ⟨q1, eq1, h⟩ := bd h
  have rq1 := z_rc (z_some ra0) eq1
  obtain ⟨M2, eM2, h⟩ := bd h
  have w := zX16_arpFrame fu q1 (1 : Int32) (65535 : Int32) (-1 : Int32) (0 : Int32) (0 : Int32) a1 M hB rq1 eM2
  have hS := hS.tr w.1
  have hB := w.2
  obtain rfl := Option.some.inj h
  exact ⟨hS, hB⟩
theorem zX16_trayHalf (fu : Nat)   (a0 : Nat) (a1 : Int32)  (M : Mm) {out : Int32 × Mm} (hB : RW M) (ra0 : a0 = 323) (h : fX16_trayHalf fu  a0 a1 M = some out) : Zq M out.2 ∧ RW out.2 := by
  unfold fX16_trayHalf at h
  have hS : Zq M M := Zq.rf
  obtain ⟨v1, ev1, h⟩ := bd h
  obtain ⟨v2, ev2, h⟩ := bd h
  obtain ⟨v3, ev3, h⟩ := bd h
  obtain ⟨v4, ev4, h⟩ := bd h
  obtain rfl := Option.some.inj h
  exact ⟨hS, hB⟩
theorem zX16_trayWord (fu : Nat)   (a0 : Nat) (a1 : Int32)  (M : Mm) {out : Int32 × Mm} (hB : RW M) (ra0 : a0 = 323) (h : fX16_trayWord fu  a0 a1 M = some out) : Zq M out.2 ∧ RW out.2 := by
  unfold fX16_trayWord at h
  have hS : Zq M M := Zq.rf
  obtain ⟨q1, eq1, h⟩ := bd h
  have rq1 := z_rc (z_some ra0) eq1
  obtain ⟨v3, M2, eM2, h⟩ := b2d h
  have w := zX16_trayHalf fu q1 a1 M hB rq1 eM2
  have hS := hS.tr w.1
  have hB := w.2
  obtain ⟨q4, eq4, h⟩ := bd h
  have rq4 := z_rc (z_some ra0) eq4
  obtain ⟨v6, M5, eM5, h⟩ := b2d h
  have w := zX16_trayHalf fu q4 (a1 + (2 : Int32)) M2 hB rq4 eM5
  have hS := hS.tr w.1
  have hB := w.2
  obtain rfl := Option.some.inj h
  exact ⟨hS, hB⟩
theorem zX16_arp_L116 (fu : Nat)   (a0 : Nat) (a1 : Int32) (a2 : Int32) (a3 : Int32) (a4 : Int32) (a5 : Int32)  (M : Mm) {out : Mm} (hB : RW M) (ra0 : a0 = 323) (h : fX16_arp_L116 fu  a0 a1 a2 a3 a4 a5 M = some out) : Zq M out ∧ RW out := by
  unfold fX16_arp_L116 at h
  have hS : Zq M M := Zq.rf
  by_cases hc : a1 = (1 : Int32)
  · have h := (if_pos hc).symm.trans h
    obtain ⟨v1, ev1, h⟩ := bd h
    by_cases hc : a5 = v1
    · have h := (if_pos hc).symm.trans h
      obtain ⟨q2, eq2, h⟩ := bd h
      have rq2 := z_rc (z_some ra0) eq2
      obtain ⟨M3, eM3, h⟩ := bd h
      have w := zX16_arpFrame fu q2 (2 : Int32) a2 a3 a2 a3 a4 M hB rq2 eM3
      have hS := hS.tr w.1
      have hB := w.2
      obtain rfl := Option.some.inj h
      exact ⟨hS, hB⟩
    · have h := (if_neg hc).symm.trans h
      obtain rfl := Option.some.inj h
      exact ⟨hS, hB⟩
  · have h := (if_neg hc).symm.trans h
    obtain rfl := Option.some.inj h
    exact ⟨hS, hB⟩
theorem zX16_arp_L108 (fu : Nat)   (a0 : Nat) (a1 : Int32) (a2 : Int32) (a3 : Int32) (a4 : Int32) (a5 : Int32)  (M : Mm) {out : Mm} (hB : RW M) (ra0 : a0 = 323) (h : fX16_arp_L108 fu  a0 a1 a2 a3 a4 a5 M = some out) : Zq M out ∧ RW out := by
  unfold fX16_arp_L108 at h
  have hS : Zq M M := Zq.rf
  obtain ⟨q1, eq1, h⟩ := bd h
  have rq1 := z_rc (z_some ra0) eq1
  obtain ⟨M2, eM2, h⟩ := bd h
  have w := zX16_remember fu q1 a4 a2 a3 M hB rq1 eM2
  have hS := hS.tr w.1
  have hB := w.2
  have z := zX16_arp_L116 fu   a0 a1 a2 a3 a4 a5 M2 hB ra0 h
  exact ⟨hS.tr z.1, z.2⟩
theorem zX16_arp_L51 (fu : Nat)   (a0 : Nat) (a1 : Int32)  (M : Mm) {out : Mm} (hB : RW M) (ra0 : a0 = 323) (h : fX16_arp_L51 fu  a0 a1 M = some out) : Zq M out ∧ RW out := by
  unfold fX16_arp_L51 at h
  have hS : Zq M M := Zq.rf
  obtain ⟨q1, eq1, h⟩ := bd h
  have rq1 := z_rc (z_some ra0) eq1
  obtain ⟨v3, M2, eM2, h⟩ := b2d h
  have w := zX16_trayHalf fu q1 (22 : Int32) M hB rq1 eM2
  have hS := hS.tr w.1
  have hB := w.2
  obtain ⟨q4, eq4, h⟩ := bd h
  have rq4 := z_rc (z_some ra0) eq4
  obtain ⟨v6, M5, eM5, h⟩ := b2d h
  have w := zX16_trayWord fu q4 (24 : Int32) M2 hB rq4 eM5
  have hS := hS.tr w.1
  have hB := w.2
  obtain ⟨q7, eq7, h⟩ := bd h
  have rq7 := z_rc (z_some ra0) eq7
  obtain ⟨v9, M8, eM8, h⟩ := b2d h
  have w := zX16_trayWord fu q7 (28 : Int32) M5 hB rq7 eM8
  have hS := hS.tr w.1
  have hB := w.2
  obtain ⟨q10, eq10, h⟩ := bd h
  have rq10 := z_rc (z_some ra0) eq10
  obtain ⟨v12, M11, eM11, h⟩ := b2d h
  have w := zX16_trayWord fu q10 (38 : Int32) M8 hB rq10 eM11
  have hS := hS.tr w.1
  have hB := w.2
  obtain ⟨q13, eq13, h⟩ := bd h
  have rq13 := z_rc (z_some ra0) eq13
  obtain ⟨v15, M14, eM14, h⟩ := b2d h
  have w := zX16_entry fu q13 v9 M11 hB rq13 eM14
  have hS := hS.tr w.1
  have hB := w.2
  by_cases hc : v15 = none
  · have h := (if_pos hc).symm.trans h
    obtain ⟨v16, ev16, h⟩ := bd h
    by_cases hc : v12 = v16
    · have h := (if_pos hc).symm.trans h
      obtain ⟨v17, ev17, h⟩ := bd h
      by_cases hc : v9 = v17
      · have h := (if_pos hc).symm.trans h
        have z := zX16_arp_L116 fu   a0 a1 v3 v6 v9 v12 M14 hB ra0 h
        exact ⟨hS.tr z.1, z.2⟩
      · have h := (if_neg hc).symm.trans h
        have z := zX16_arp_L108 fu   a0 a1 v3 v6 v9 v12 M14 hB ra0 h
        exact ⟨hS.tr z.1, z.2⟩
    · have h := (if_neg hc).symm.trans h
      have z := zX16_arp_L116 fu   a0 a1 v3 v6 v9 v12 M14 hB ra0 h
      exact ⟨hS.tr z.1, z.2⟩
  · have h := (if_neg hc).symm.trans h
    have z := zX16_arp_L108 fu   a0 a1 v3 v6 v9 v12 M14 hB ra0 h
    exact ⟨hS.tr z.1, z.2⟩
theorem zX16_arp (fu : Nat)   (a0 : Nat)  (M : Mm) {out : Mm} (hB : RW M) (ra0 : a0 = 323) (h : fX16_arp fu  a0 M = some out) : Zq M out ∧ RW out := by
  unfold fX16_arp at h
  have hS : Zq M M := Zq.rf
  obtain ⟨v1, ev1, h⟩ := bd h
  by_cases hc : v1 < (42 : Int32)
  · have h := (if_pos hc).symm.trans h
    obtain rfl := Option.some.inj h
    exact ⟨hS, hB⟩
  · have h := (if_neg hc).symm.trans h
    obtain ⟨q2, eq2, h⟩ := bd h
    have rq2 := z_rc (z_some ra0) eq2
    obtain ⟨v4, M3, eM3, h⟩ := b2d h
    have w := zX16_trayWord fu q2 (14 : Int32) M hB rq2 eM3
    have hS := hS.tr w.1
    have hB := w.2
    by_cases hc : v4 = (67584 : Int32)
    · have h := (if_pos hc).symm.trans h
      obtain ⟨q5, eq5, h⟩ := bd h
      have rq5 := z_rc (z_some ra0) eq5
      obtain ⟨v7, M6, eM6, h⟩ := b2d h
      have w := zX16_trayHalf fu q5 (18 : Int32) M3 hB rq5 eM6
      have hS := hS.tr w.1
      have hB := w.2
      by_cases hc : v7 = (1540 : Int32)
      · have h := (if_pos hc).symm.trans h
        obtain ⟨q8, eq8, h⟩ := bd h
        have rq8 := z_rc (z_some ra0) eq8
        obtain ⟨v10, M9, eM9, h⟩ := b2d h
        have w := zX16_trayHalf fu q8 (20 : Int32) M6 hB rq8 eM9
        have hS := hS.tr w.1
        have hB := w.2
        by_cases hc : v10 = (1 : Int32)
        · have h := (if_pos hc).symm.trans h
          have z := zX16_arp_L51 fu   a0 v10 M9 hB ra0 h
          exact ⟨hS.tr z.1, z.2⟩
        · have h := (if_neg hc).symm.trans h
          by_cases hc : v10 = (2 : Int32)
          · have h := (if_pos hc).symm.trans h
            have z := zX16_arp_L51 fu   a0 v10 M9 hB ra0 h
            exact ⟨hS.tr z.1, z.2⟩
          · have h := (if_neg hc).symm.trans h
            obtain rfl := Option.some.inj h
            exact ⟨hS, hB⟩
      · have h := (if_neg hc).symm.trans h
        obtain rfl := Option.some.inj h
        exact ⟨hS, hB⟩
    · have h := (if_neg hc).symm.trans h
      obtain rfl := Option.some.inj h
      exact ⟨hS, hB⟩
theorem zX16_ipOut_L271 (fu : Nat) {out : Mm}   : ∀ (n : Nat) (a0 : Nat) (a4 : Int32) (a6 : Option Nat) (a7 : Int32) (a8 : Int32)  (M : Mm), RW M → a0 = 323 → fX16_ipOut_L271 fu  n a0 a4 a6 a7 a8 M = some out → Zq M out ∧ RW out := by
  intro n
  induction n with
  | zero =>
    intro a0 a4 a6 a7 a8 M hB ra0 h
    have h : (none : Option (Mm)) = some out := h
    cases h
  | succ n ih =>
    intro a0 a4 a6 a7 a8 M hB ra0 h
    rw [fX16_ipOut_L271] at h
    have hS : Zq M M := Zq.rf
    obtain ⟨v1, ev1, h⟩ := bd h
    by_cases hc : v1 ≤ a8
    · have h := (if_pos hc).symm.trans h
      by_cases hc : a7 = 0
      · have h := (if_pos hc).symm.trans h
        obtain rfl := Option.some.inj h
        exact ⟨hS, hB⟩
      · have h := (if_neg hc).symm.trans h
        obtain ⟨v2, ev2, h⟩ := bd h
        obtain ⟨M3, eM3, h⟩ := bd h
        have w := z_pF hB eM3 (by decide)
        have hS := hS.tr w.1
        have hB := w.2
        obtain ⟨M4, eM4, h⟩ := bd h
        have w := z_pF hB eM4 (by decide)
        have hS := hS.tr w.1
        have hB := w.2
        obtain ⟨v5, ev5, h⟩ := bd h
        obtain ⟨M6, eM6, h⟩ := bd h
        have w := z_pF hB eM6 (by decide)
        have hS := hS.tr w.1
        have hB := w.2
        obtain ⟨v7, ev7, h⟩ := bd h
        obtain ⟨M8, eM8, h⟩ := bd h
        have w := z_pF hB eM8 (by decide)
        have hS := hS.tr w.1
        have hB := w.2
        obtain ⟨q9, eq9, h⟩ := bd h
        have rq9 := z_rc (z_some ra0) eq9
        obtain ⟨M10, eM10, h⟩ := bd h
        have w := zX16_ask fu q9 a4 M8 hB rq9 eM10
        have hS := hS.tr w.1
        have hB := w.2
        obtain rfl := Option.some.inj h
        exact ⟨hS, hB⟩
    · have h := (if_neg hc).symm.trans h
      obtain ⟨v11, ev11, h⟩ := bd h
      obtain ⟨v12, ev12, h⟩ := bd h
      obtain ⟨v13, ev13, h⟩ := bd h
      obtain ⟨M14, eM14, h⟩ := bd h
      have w := z_pA hB (by decide) eM14
      have hS := hS.tr w.1
      have hB := w.2
      have z := ih a0 a4 a6 a7 (a8 + (1 : Int32)) M14 hB ra0 h
      exact ⟨hS.tr z.1, z.2⟩
theorem zX16_ipOut_L240 (fu : Nat)   (a0 : Nat) (a3 : Int32) (a4 : Int32) (a6 : Option Nat) (a7 : Int32)  (M : Mm) {out : Mm} (hB : RW M) (ra0 : a0 = 323) (h : fX16_ipOut_L240 fu  a0 a3 a4 a6 a7 M = some out) : Zq M out ∧ RW out := by
  unfold fX16_ipOut_L240 at h
  have hS : Zq M M := Zq.rf
  by_cases hc : a6 = none
  · have h := (if_pos hc).symm.trans h
    obtain rfl := Option.some.inj h
    exact ⟨hS, hB⟩
  · have h := (if_neg hc).symm.trans h
    obtain ⟨M1, eM1, h⟩ := bd h
    have w := z_pZ hB eM1 (by decide)
    have hS := hS.tr w.1
    have hB := w.2
    obtain ⟨M2, eM2, h⟩ := bd h
    have w := z_pF hB eM2 (by decide)
    have hS := hS.tr w.1
    have hB := w.2
    obtain ⟨M3, eM3, h⟩ := bd h
    have w := z_pF hB eM3 (by decide)
    have hS := hS.tr w.1
    have hB := w.2
    have z := zX16_ipOut_L271 fu   fu a0 a4 a6 a7 (0 : Int32) M3 hB ra0 h
    exact ⟨hS.tr z.1, z.2⟩
theorem zX16_ipOut_L234 (fu : Nat) {out : Mm} (k200 : Nat → Int32 → Int32 → Option Nat → Int32 → Int32 → Mm → Option (Mm)) (hk200 : ∀ (b0 : Nat) (b3 : Int32) (b4 : Int32) (b6 : Option Nat) (b7 : Int32) (b8 : Int32)  (M : Mm), RW M → b0 = 323 → k200 b0 b3 b4 b6 b7 b8 M = some out → Zq M out ∧ RW out) (a0 : Nat) (a3 : Int32) (a4 : Int32) (a6 : Option Nat) (a7 : Int32) (a8 : Int32)  (M : Mm) (hB : RW M) (ra0 : a0 = 323) (h : fX16_ipOut_L234 fu k200 a0 a3 a4 a6 a7 a8 M = some out) : Zq M out ∧ RW out := by
  unfold fX16_ipOut_L234 at h
  have hS : Zq M M := Zq.rf
  have z := hk200 a0 a3 a4 a6 a7 (a8 + (1 : Int32)) M hB ra0 h
  exact ⟨hS.tr z.1, z.2⟩
theorem zX16_ipOut_L200 (fu : Nat) {out : Mm}   : ∀ (n : Nat) (a0 : Nat) (a3 : Int32) (a4 : Int32) (a6 : Option Nat) (a7 : Int32) (a8 : Int32)  (M : Mm), RW M → a0 = 323 → fX16_ipOut_L200 fu  n a0 a3 a4 a6 a7 a8 M = some out → Zq M out ∧ RW out := by
  intro n
  induction n with
  | zero =>
    intro a0 a3 a4 a6 a7 a8 M hB ra0 h
    have h : (none : Option (Mm)) = some out := h
    cases h
  | succ n ih =>
    intro a0 a3 a4 a6 a7 a8 M hB ra0 h
    rw [fX16_ipOut_L200] at h
    have hS : Zq M M := Zq.rf
    by_cases hc : (8 : Int32) ≤ a8
    · have h := (if_pos hc).symm.trans h
      have z := zX16_ipOut_L240 fu   a0 a3 a4 a6 a7 M hB ra0 h
      exact ⟨hS.tr z.1, z.2⟩
    · have h := (if_neg hc).symm.trans h
      by_cases hc : a6 = none
      · have h := (if_pos hc).symm.trans h
        obtain ⟨v1, ev1, h⟩ := bd h
        obtain ⟨v2, ev2, h⟩ := bd h
        obtain ⟨v3, ev3, h⟩ := bd h
        by_cases hc : v3 = 0
        · have h := (if_pos hc).symm.trans h
          obtain ⟨v4, ev4, h⟩ := bd h
          obtain ⟨v5, ev5, h⟩ := bd h
          have z := zX16_ipOut_L234 fu (fun b0 b3 b4 b6 b7 b8 M => fX16_ipOut_L200 fu  n b0 b3 b4 b6 b7 b8 M) ih a0 a3 a4 v5 a7 a8 M hB ra0 h
          exact ⟨hS.tr z.1, z.2⟩
        · have h := (if_neg hc).symm.trans h
          have z := zX16_ipOut_L234 fu (fun b0 b3 b4 b6 b7 b8 M => fX16_ipOut_L200 fu  n b0 b3 b4 b6 b7 b8 M) ih a0 a3 a4 a6 a7 a8 M hB ra0 h
          exact ⟨hS.tr z.1, z.2⟩
      · have h := (if_neg hc).symm.trans h
        have z := zX16_ipOut_L240 fu   a0 a3 a4 a6 a7 M hB ra0 h
        exact ⟨hS.tr z.1, z.2⟩
theorem zX16_ipOut_L195 (fu : Nat)   (a0 : Nat) (a3 : Int32) (a4 : Int32) (a6 : Option Nat) (s0 : Int32) (M : Mm) {out : Mm} (hB : RW M) (ra0 : a0 = 323) (h : fX16_ipOut_L195 fu  a0 a3 a4 a6 s0 M = some out) : Zq M out ∧ RW out := by
  unfold fX16_ipOut_L195 at h
  have hS : Zq M M := Zq.rf
  have z := zX16_ipOut_L200 fu   fu a0 a3 a4 a6 s0 (0 : Int32) M hB ra0 h
  exact ⟨hS.tr z.1, z.2⟩
theorem zX16_ipOut_L140 (fu : Nat)   (a0 : Nat) (a3 : Int32) (s0 : Int32) (M : Mm) {out : Mm} (hB : RW M) (ra0 : a0 = 323) (h : fX16_ipOut_L140 fu  a0 a3 s0 M = some out) : Zq M out ∧ RW out := by
  unfold fX16_ipOut_L140 at h
  have hS : Zq M M := Zq.rf
  obtain ⟨q1, eq1, h⟩ := bd h
  have rq1 := z_rc (z_some ra0) eq1
  obtain ⟨v3, M2, eM2, h⟩ := b2d h
  have w := zX16_counting fu q1 s0 M hB rq1 eM2
  have hS := hS.tr w.1
  have hB := w.2
  by_cases hc : v3 = none
  · have h := (if_pos hc).symm.trans h
    obtain ⟨q4, eq4, h⟩ := bd h
    have rq4 := z_rc (z_some ra0) eq4
    obtain ⟨v6, M5, eM5, h⟩ := b2d h
    have w := zX16_packet fu q4 s0 M2 hB rq4 eM5
    have hS := hS.tr w.1
    have hB := w.2
    by_cases hc : v6 = none
    · have h := (if_pos hc).symm.trans h
      have z := zX16_ipOut_L195 fu   a0 a3 s0 v6 (1 : Int32) M5 hB ra0 h
      exact ⟨hS.tr z.1, z.2⟩
    · have h := (if_neg hc).symm.trans h
      have z := zX16_ipOut_L195 fu   a0 a3 s0 v6 (0 : Int32) M5 hB ra0 h
      exact ⟨hS.tr z.1, z.2⟩
  · have h := (if_neg hc).symm.trans h
    obtain ⟨v7, ev7, h⟩ := bd h
    obtain ⟨v8, ev8, h⟩ := bd h
    obtain ⟨q9, eq9, h⟩ := bd h
    have rq9 := z_rc (z_some ra0) eq9
    obtain ⟨M10, eM10, h⟩ := bd h
    have w := zX16_send fu q9 v7 v8 (2048 : Int32) ((20 : Int32) + a3) M2 hB rq9 eM10
    have hS := hS.tr w.1
    have hB := w.2
    obtain rfl := Option.some.inj h
    exact ⟨hS, hB⟩
theorem zX16_ipOut (fu : Nat)   (a0 : Nat) (a1 : Int32) (a2 : Int32) (a3 : Int32)  (M : Mm) {out : Mm} (hB : RW M) (ra0 : a0 = 323) (h : fX16_ipOut fu  a0 a1 a2 a3 M = some out) : Zq M out ∧ RW out := by
  unfold fX16_ipOut at h
  have hS : Zq M M := Zq.rf
  obtain ⟨v1, ev1, h⟩ := bd h
  obtain ⟨M2, eM2, h⟩ := bd h
  have w := z_pF hB eM2 (by decide)
  have hS := hS.tr w.1
  have hB := w.2
  obtain ⟨q3, eq3, h⟩ := bd h
  have rq3 := z_rc (z_some ra0) eq3
  obtain ⟨M4, eM4, h⟩ := bd h
  have w := zX16_put fu q3 (14 : Int32) (2 : Int32) (17664 : Int32) M2 hB rq3 eM4
  have hS := hS.tr w.1
  have hB := w.2
  obtain ⟨q5, eq5, h⟩ := bd h
  have rq5 := z_rc (z_some ra0) eq5
  obtain ⟨M6, eM6, h⟩ := bd h
  have w := zX16_put fu q5 (16 : Int32) (2 : Int32) ((20 : Int32) + a3) M4 hB rq5 eM6
  have hS := hS.tr w.1
  have hB := w.2
  obtain ⟨v7, ev7, h⟩ := bd h
  obtain ⟨q8, eq8, h⟩ := bd h
  have rq8 := z_rc (z_some ra0) eq8
  obtain ⟨M9, eM9, h⟩ := bd h
  have w := zX16_put fu q8 (18 : Int32) (2 : Int32) v7 M6 hB rq8 eM9
  have hS := hS.tr w.1
  have hB := w.2
  obtain ⟨q10, eq10, h⟩ := bd h
  have rq10 := z_rc (z_some ra0) eq10
  obtain ⟨M11, eM11, h⟩ := bd h
  have w := zX16_put fu q10 (20 : Int32) (2 : Int32) (16384 : Int32) M9 hB rq10 eM11
  have hS := hS.tr w.1
  have hB := w.2
  obtain ⟨q12, eq12, h⟩ := bd h
  have rq12 := z_rc (z_some ra0) eq12
  obtain ⟨M13, eM13, h⟩ := bd h
  have w := zX16_put fu q12 (22 : Int32) (2 : Int32) ((16384 : Int32) ||| a2) M11 hB rq12 eM13
  have hS := hS.tr w.1
  have hB := w.2
  obtain ⟨q14, eq14, h⟩ := bd h
  have rq14 := z_rc (z_some ra0) eq14
  obtain ⟨M15, eM15, h⟩ := bd h
  have w := zX16_put fu q14 (24 : Int32) (2 : Int32) (0 : Int32) M13 hB rq14 eM15
  have hS := hS.tr w.1
  have hB := w.2
  obtain ⟨v16, ev16, h⟩ := bd h
  obtain ⟨q17, eq17, h⟩ := bd h
  have rq17 := z_rc (z_some ra0) eq17
  obtain ⟨M18, eM18, h⟩ := bd h
  have w := zX16_put fu q17 (26 : Int32) (4 : Int32) v16 M15 hB rq17 eM18
  have hS := hS.tr w.1
  have hB := w.2
  obtain ⟨q19, eq19, h⟩ := bd h
  have rq19 := z_rc (z_some ra0) eq19
  obtain ⟨M20, eM20, h⟩ := bd h
  have w := zX16_put fu q19 (30 : Int32) (4 : Int32) a1 M18 hB rq19 eM20
  have hS := hS.tr w.1
  have hB := w.2
  obtain ⟨v21, ev21, h⟩ := bd h
  obtain ⟨v23, M22, eM22, h⟩ := b2d h
  have w := zX16_added fu  v21 (14 : Int32) (20 : Int32) (0 : Int64) M20 hB  eM22
  have hS := hS.tr w.1
  have hB := w.2
  obtain ⟨v25, M24, eM24, h⟩ := b2d h
  have w := zX16_sixteen fu  v23 M22 hB  eM24
  have hS := hS.tr w.1
  have hB := w.2
  obtain ⟨q26, eq26, h⟩ := bd h
  have rq26 := z_rc (z_some ra0) eq26
  obtain ⟨M27, eM27, h⟩ := bd h
  have w := zX16_put fu q26 (24 : Int32) (2 : Int32) v25 M24 hB rq26 eM27
  have hS := hS.tr w.1
  have hB := w.2
  obtain ⟨q28, eq28, h⟩ := bd h
  have rq28 := z_rc (z_some ra0) eq28
  obtain ⟨v30, M29, eM29, h⟩ := b2d h
  have w := zX16_net fu q28 a1 M27 hB rq28 eM29
  have hS := hS.tr w.1
  have hB := w.2
  obtain ⟨v31, ev31, h⟩ := bd h
  obtain ⟨q32, eq32, h⟩ := bd h
  have rq32 := z_rc (z_some ra0) eq32
  obtain ⟨v34, M33, eM33, h⟩ := b2d h
  have w := zX16_net fu q32 v31 M29 hB rq32 eM33
  have hS := hS.tr w.1
  have hB := w.2
  by_cases hc : v30 = v34
  · have h := (if_pos hc).symm.trans h
    have z := zX16_ipOut_L140 fu   a0 a3 a1 M33 hB ra0 h
    exact ⟨hS.tr z.1, z.2⟩
  · have h := (if_neg hc).symm.trans h
    obtain ⟨v35, ev35, h⟩ := bd h
    have z := zX16_ipOut_L140 fu   a0 a3 v35 M33 hB ra0 h
    exact ⟨hS.tr z.1, z.2⟩
theorem zX16_askAgain (fu : Nat)   (a0 : Nat) (a1 : Option Nat)  (M : Mm) {out : Mm} (hB : RW M) (ra0 : a0 = 323) (h : fX16_askAgain fu  a0 a1 M = some out) : Zq M out ∧ RW out := by
  unfold fX16_askAgain at h
  have hS : Zq M M := Zq.rf
  obtain ⟨v1, ev1, h⟩ := bd h
  by_cases hc : v1 = (3 : Int32)
  · have h := (if_pos hc).symm.trans h
    obtain ⟨M7, eM7, h⟩ := bd h
    have w := z_pZ hB eM7 (by decide)
    have hS := hS.tr w.1
    have hB := w.2
    obtain rfl := Option.some.inj h
    exact ⟨hS, hB⟩
  · have h := (if_neg hc).symm.trans h
    obtain ⟨v2, ev2, h⟩ := bd h
    obtain ⟨M3, eM3, h⟩ := bd h
    have w := z_pF hB eM3 (by decide)
    have hS := hS.tr w.1
    have hB := w.2
    obtain ⟨v4, ev4, h⟩ := bd h
    obtain ⟨q5, eq5, h⟩ := bd h
    have rq5 := z_rc (z_some ra0) eq5
    obtain ⟨M6, eM6, h⟩ := bd h
    have w := zX16_ask fu q5 v4 M3 hB rq5 eM6
    have hS := hS.tr w.1
    have hB := w.2
    obtain rfl := Option.some.inj h
    exact ⟨hS, hB⟩
theorem zX16_echo_L52 (fu : Nat) {out : Mm}   : ∀ (n : Nat) (a0 : Nat) (a1 : Int32) (a2 : Int32)  (M : Mm), RW M → a0 = 323 → fX16_echo_L52 fu  n a0 a1 a2 M = some out → Zq M out ∧ RW out := by
  intro n
  induction n with
  | zero =>
    intro a0 a1 a2 M hB ra0 h
    have h : (none : Option (Mm)) = some out := h
    cases h
  | succ n ih =>
    intro a0 a1 a2 M hB ra0 h
    rw [fX16_echo_L52] at h
    have hS : Zq M M := Zq.rf
    by_cases hc : a1 ≤ a2
    · have h := (if_pos hc).symm.trans h
      obtain ⟨q1, eq1, h⟩ := bd h
      have rq1 := z_rc (z_some ra0) eq1
      obtain ⟨M2, eM2, h⟩ := bd h
      have w := zX16_put fu q1 (34 : Int32) (1 : Int32) (0 : Int32) M hB rq1 eM2
      have hS := hS.tr w.1
      have hB := w.2
      obtain ⟨q3, eq3, h⟩ := bd h
      have rq3 := z_rc (z_some ra0) eq3
      obtain ⟨M4, eM4, h⟩ := bd h
      have w := zX16_put fu q3 (36 : Int32) (2 : Int32) (0 : Int32) M2 hB rq3 eM4
      have hS := hS.tr w.1
      have hB := w.2
      obtain ⟨v5, ev5, h⟩ := bd h
      obtain ⟨v7, M6, eM6, h⟩ := b2d h
      have w := zX16_added fu  v5 (34 : Int32) a1 (0 : Int64) M4 hB  eM6
      have hS := hS.tr w.1
      have hB := w.2
      obtain ⟨v9, M8, eM8, h⟩ := b2d h
      have w := zX16_sixteen fu  v7 M6 hB  eM8
      have hS := hS.tr w.1
      have hB := w.2
      obtain ⟨q10, eq10, h⟩ := bd h
      have rq10 := z_rc (z_some ra0) eq10
      obtain ⟨M11, eM11, h⟩ := bd h
      have w := zX16_put fu q10 (36 : Int32) (2 : Int32) v9 M8 hB rq10 eM11
      have hS := hS.tr w.1
      have hB := w.2
      obtain ⟨v12, ev12, h⟩ := bd h
      obtain ⟨q13, eq13, h⟩ := bd h
      have rq13 := z_rc (z_some ra0) eq13
      obtain ⟨M14, eM14, h⟩ := bd h
      have w := zX16_ipOut fu q13 v12 (1 : Int32) a1 M11 hB rq13 eM14
      have hS := hS.tr w.1
      have hB := w.2
      obtain rfl := Option.some.inj h
      exact ⟨hS, hB⟩
    · have h := (if_neg hc).symm.trans h
      obtain ⟨v15, ev15, h⟩ := bd h
      obtain ⟨v16, ev16, h⟩ := bd h
      obtain ⟨v17, ev17, h⟩ := bd h
      obtain ⟨M18, eM18, h⟩ := bd h
      have w := z_pA hB (by decide) eM18
      have hS := hS.tr w.1
      have hB := w.2
      have z := ih a0 a1 (a2 + (1 : Int32)) M18 hB ra0 h
      exact ⟨hS.tr z.1, z.2⟩
theorem zX16_echo (fu : Nat)   (a0 : Nat) (a1 : Int32)  (M : Mm) {out : Mm} (hB : RW M) (ra0 : a0 = 323) (h : fX16_echo fu  a0 a1 M = some out) : Zq M out ∧ RW out := by
  unfold fX16_echo at h
  have hS : Zq M M := Zq.rf
  by_cases hc : a1 < (8 : Int32)
  · have h := (if_pos hc).symm.trans h
    obtain rfl := Option.some.inj h
    exact ⟨hS, hB⟩
  · have h := (if_neg hc).symm.trans h
    by_cases hc : (1480 : Int32) < a1
    · have h := (if_pos hc).symm.trans h
      obtain rfl := Option.some.inj h
      exact ⟨hS, hB⟩
    · have h := (if_neg hc).symm.trans h
      obtain ⟨v1, ev1, h⟩ := bd h
      obtain ⟨v3, M2, eM2, h⟩ := b2d h
      have w := zX16_added fu  v1 (0 : Int32) a1 (0 : Int64) M hB  eM2
      have hS := hS.tr w.1
      have hB := w.2
      obtain ⟨v5, M4, eM4, h⟩ := b2d h
      have w := zX16_sixteen fu  v3 M2 hB  eM4
      have hS := hS.tr w.1
      have hB := w.2
      by_cases hc : v5 = 0
      · have h := (if_pos hc).symm.trans h
        obtain ⟨v6, ev6, h⟩ := bd h
        obtain ⟨v7, ev7, h⟩ := bd h
        by_cases hc : v7 = (8 : Int32)
        · have h := (if_pos hc).symm.trans h
          obtain ⟨v8, ev8, h⟩ := bd h
          obtain ⟨v9, ev9, h⟩ := bd h
          by_cases hc : v9 = 0
          · have h := (if_pos hc).symm.trans h
            have z := zX16_echo_L52 fu   fu a0 a1 (0 : Int32) M4 hB ra0 h
            exact ⟨hS.tr z.1, z.2⟩
          · have h := (if_neg hc).symm.trans h
            obtain rfl := Option.some.inj h
            exact ⟨hS, hB⟩
        · have h := (if_neg hc).symm.trans h
          obtain rfl := Option.some.inj h
          exact ⟨hS, hB⟩
      · have h := (if_neg hc).symm.trans h
        obtain rfl := Option.some.inj h
        exact ⟨hS, hB⟩
theorem zX16_pseudo (fu : Nat)   (a0 : Nat) (a1 : Int32) (a2 : Int32) (a3 : Int32)  (M : Mm) {out : Int64 × Mm} (hB : RW M) (ra0 : a0 = 323) (h : fX16_pseudo fu  a0 a1 a2 a3 M = some out) : Zq M out.2 ∧ RW out.2 := by
  unfold fX16_pseudo at h
  have hS : Zq M M := Zq.rf
  obtain rfl := Option.some.inj h
  exact ⟨hS, hB⟩
theorem zX16_half (fu : Nat)   (a0 : Nat) (a1 : Int32)  (M : Mm) {out : Int32 × Mm} (hB : RW M) (ra0 : a0 = 323) (h : fX16_half fu  a0 a1 M = some out) : Zq M out.2 ∧ RW out.2 := by
  unfold fX16_half at h
  have hS : Zq M M := Zq.rf
  obtain ⟨v1, ev1, h⟩ := bd h
  obtain ⟨v2, ev2, h⟩ := bd h
  obtain ⟨v3, ev3, h⟩ := bd h
  obtain ⟨v4, ev4, h⟩ := bd h
  obtain rfl := Option.some.inj h
  exact ⟨hS, hB⟩
theorem zX16_wholeWord (fu : Nat)   (a0 : Nat) (a1 : Int32)  (M : Mm) {out : Int32 × Mm} (hB : RW M) (ra0 : a0 = 323) (h : fX16_wholeWord fu  a0 a1 M = some out) : Zq M out.2 ∧ RW out.2 := by
  unfold fX16_wholeWord at h
  have hS : Zq M M := Zq.rf
  obtain ⟨q1, eq1, h⟩ := bd h
  have rq1 := z_rc (z_some ra0) eq1
  obtain ⟨v3, M2, eM2, h⟩ := b2d h
  have w := zX16_half fu q1 a1 M hB rq1 eM2
  have hS := hS.tr w.1
  have hB := w.2
  obtain ⟨q4, eq4, h⟩ := bd h
  have rq4 := z_rc (z_some ra0) eq4
  obtain ⟨v6, M5, eM5, h⟩ := b2d h
  have w := zX16_half fu q4 (a1 + (2 : Int32)) M2 hB rq4 eM5
  have hS := hS.tr w.1
  have hB := w.2
  obtain rfl := Option.some.inj h
  exact ⟨hS, hB⟩
theorem zX16_is (fu : Nat)   (a0 : Nat) (a1 : Int32)  (M : Mm) {out : Int32 × Mm} (hB : RW M) (ra0 : a0 = 323) (h : fX16_is fu  a0 a1 M = some out) : Zq M out.2 ∧ RW out.2 := by
  unfold fX16_is at h
  have hS : Zq M M := Zq.rf
  obtain ⟨v1, ev1, h⟩ := bd h
  by_cases hc : (v1 &&& a1) = 0
  · have h := (if_pos hc).symm.trans h
    obtain ⟨hz, rfl⟩ := rN_some h
    exact ⟨hS, hB⟩
  · have h := (if_neg hc).symm.trans h
    obtain ⟨hz, rfl⟩ := rN_some h
    exact ⟨hS, hB⟩
theorem zX16_segmentOut_L91 (fu : Nat)   (a0 : Nat) (a1 : Int32) (a8 : Int32) (a9 : Int32)  (M : Mm) {out : Mm} (hB : RW M) (ra0 : a0 = 323) (h : fX16_segmentOut_L91 fu  a0 a1 a8 a9 M = some out) : Zq M out ∧ RW out := by
  unfold fX16_segmentOut_L91 at h
  have hS : Zq M M := Zq.rf
  obtain ⟨v1, ev1, h⟩ := bd h
  obtain ⟨v2, ev2, h⟩ := bd h
  obtain ⟨q3, eq3, h⟩ := bd h
  have rq3 := z_rc (z_some ra0) eq3
  obtain ⟨v5, M4, eM4, h⟩ := b2d h
  have w := zX16_pseudo fu q3 v2 a1 (((20 : Int32) + a8) + a9) M hB rq3 eM4
  have hS := hS.tr w.1
  have hB := w.2
  obtain ⟨v7, M6, eM6, h⟩ := b2d h
  have w := zX16_added fu  v1 (34 : Int32) (((20 : Int32) + a8) + a9) v5 M4 hB  eM6
  have hS := hS.tr w.1
  have hB := w.2
  obtain ⟨v9, M8, eM8, h⟩ := b2d h
  have w := zX16_sixteen fu  v7 M6 hB  eM8
  have hS := hS.tr w.1
  have hB := w.2
  obtain ⟨q10, eq10, h⟩ := bd h
  have rq10 := z_rc (z_some ra0) eq10
  obtain ⟨M11, eM11, h⟩ := bd h
  have w := zX16_put fu q10 (50 : Int32) (2 : Int32) v9 M8 hB rq10 eM11
  have hS := hS.tr w.1
  have hB := w.2
  obtain ⟨q12, eq12, h⟩ := bd h
  have rq12 := z_rc (z_some ra0) eq12
  obtain ⟨M13, eM13, h⟩ := bd h
  have w := zX16_ipOut fu q12 a1 (6 : Int32) (((20 : Int32) + a8) + a9) M11 hB rq12 eM13
  have hS := hS.tr w.1
  have hB := w.2
  obtain rfl := Option.some.inj h
  exact ⟨hS, hB⟩
theorem zX16_segmentOut (fu : Nat)   (a0 : Nat) (a1 : Int32) (a2 : Int32) (a3 : Int32) (a4 : Int32) (a5 : Int32) (a6 : Int32) (a7 : Int32) (a8 : Int32) (a9 : Int32)  (M : Mm) {out : Mm} (hB : RW M) (ra0 : a0 = 323) (h : fX16_segmentOut fu  a0 a1 a2 a3 a4 a5 a6 a7 a8 a9 M = some out) : Zq M out ∧ RW out := by
  unfold fX16_segmentOut at h
  have hS : Zq M M := Zq.rf
  obtain ⟨q1, eq1, h⟩ := bd h
  have rq1 := z_rc (z_some ra0) eq1
  obtain ⟨M2, eM2, h⟩ := bd h
  have w := zX16_put fu q1 (34 : Int32) (2 : Int32) a2 M hB rq1 eM2
  have hS := hS.tr w.1
  have hB := w.2
  obtain ⟨q3, eq3, h⟩ := bd h
  have rq3 := z_rc (z_some ra0) eq3
  obtain ⟨M4, eM4, h⟩ := bd h
  have w := zX16_put fu q3 (36 : Int32) (2 : Int32) a3 M2 hB rq3 eM4
  have hS := hS.tr w.1
  have hB := w.2
  obtain ⟨q5, eq5, h⟩ := bd h
  have rq5 := z_rc (z_some ra0) eq5
  obtain ⟨M6, eM6, h⟩ := bd h
  have w := zX16_put fu q5 (38 : Int32) (4 : Int32) a4 M4 hB rq5 eM6
  have hS := hS.tr w.1
  have hB := w.2
  obtain ⟨q7, eq7, h⟩ := bd h
  have rq7 := z_rc (z_some ra0) eq7
  obtain ⟨M8, eM8, h⟩ := bd h
  have w := zX16_put fu q7 (42 : Int32) (4 : Int32) a5 M6 hB rq7 eM8
  have hS := hS.tr w.1
  have hB := w.2
  obtain ⟨q9, eq9, h⟩ := bd h
  have rq9 := z_rc (z_some ra0) eq9
  obtain ⟨M10, eM10, h⟩ := bd h
  have w := zX16_put fu q9 (46 : Int32) (1 : Int32) ((((20 : Int32) + a8) / (4 : Int32)) <<< ((4 : Int32) &&& 31)) M8 hB rq9 eM10
  have hS := hS.tr w.1
  have hB := w.2
  obtain ⟨q11, eq11, h⟩ := bd h
  have rq11 := z_rc (z_some ra0) eq11
  obtain ⟨M12, eM12, h⟩ := bd h
  have w := zX16_put fu q11 (47 : Int32) (1 : Int32) a6 M10 hB rq11 eM12
  have hS := hS.tr w.1
  have hB := w.2
  obtain ⟨q13, eq13, h⟩ := bd h
  have rq13 := z_rc (z_some ra0) eq13
  obtain ⟨M14, eM14, h⟩ := bd h
  have w := zX16_put fu q13 (48 : Int32) (2 : Int32) a7 M12 hB rq13 eM14
  have hS := hS.tr w.1
  have hB := w.2
  obtain ⟨q15, eq15, h⟩ := bd h
  have rq15 := z_rc (z_some ra0) eq15
  obtain ⟨M16, eM16, h⟩ := bd h
  have w := zX16_put fu q15 (50 : Int32) (4 : Int32) (0 : Int32) M14 hB rq15 eM16
  have hS := hS.tr w.1
  have hB := w.2
  by_cases hc : a8 ≤ 0
  · have h := (if_pos hc).symm.trans h
    have z := zX16_segmentOut_L91 fu   a0 a1 a8 a9 M16 hB ra0 h
    exact ⟨hS.tr z.1, z.2⟩
  · have h := (if_neg hc).symm.trans h
    obtain ⟨q17, eq17, h⟩ := bd h
    have rq17 := z_rc (z_some ra0) eq17
    obtain ⟨M18, eM18, h⟩ := bd h
    have w := zX16_put fu q17 (54 : Int32) (4 : Int32) (33818036 : Int32) M16 hB rq17 eM18
    have hS := hS.tr w.1
    have hB := w.2
    have z := zX16_segmentOut_L91 fu   a0 a1 a8 a9 M18 hB ra0 h
    exact ⟨hS.tr z.1, z.2⟩
theorem zX16_extent_L17 (fu : Nat)   (a0 : Nat) (s0 : Int32) (s1 : Int32) (M : Mm) {out : Int32 × Mm} (hB : RW M) (ra0 : a0 = 323) (h : fX16_extent_L17 fu  a0 s0 s1 M = some out) : Zq M out.2 ∧ RW out.2 := by
  unfold fX16_extent_L17 at h
  have hS : Zq M M := Zq.rf
  obtain ⟨q1, eq1, h⟩ := bd h
  have rq1 := z_rc (z_some ra0) eq1
  obtain ⟨v3, M2, eM2, h⟩ := b2d h
  have w := zX16_is fu q1 (1 : Int32) M hB rq1 eM2
  have hS := hS.tr w.1
  have hB := w.2
  by_cases hc : v3 = 0
  · have h := (if_pos hc).symm.trans h
    obtain rfl := Option.some.inj h
    exact ⟨hS, hB⟩
  · have h := (if_neg hc).symm.trans h
    obtain rfl := Option.some.inj h
    exact ⟨hS, hB⟩
theorem zX16_extent (fu : Nat)   (a0 : Nat)  (M : Mm) {out : Int32 × Mm} (hB : RW M) (ra0 : a0 = 323) (h : fX16_extent fu  a0 M = some out) : Zq M out.2 ∧ RW out.2 := by
  unfold fX16_extent at h
  have hS : Zq M M := Zq.rf
  obtain ⟨v1, ev1, h⟩ := bd h
  obtain ⟨q2, eq2, h⟩ := bd h
  have rq2 := z_rc (z_some ra0) eq2
  obtain ⟨v4, M3, eM3, h⟩ := b2d h
  have w := zX16_is fu q2 (2 : Int32) M hB rq2 eM3
  have hS := hS.tr w.1
  have hB := w.2
  by_cases hc : v4 = 0
  · have h := (if_pos hc).symm.trans h
    have z := zX16_extent_L17 fu   a0 v1 (0 : Int32) M3 hB ra0 h
    exact ⟨hS.tr z.1, z.2⟩
  · have h := (if_neg hc).symm.trans h
    have z := zX16_extent_L17 fu   a0 v1 (1 : Int32) M3 hB ra0 h
    exact ⟨hS.tr z.1, z.2⟩
theorem zX16_reset (fu : Nat)   (a0 : Nat)  (M : Mm) {out : Mm} (hB : RW M) (ra0 : a0 = 323) (h : fX16_reset fu  a0 M = some out) : Zq M out ∧ RW out := by
  unfold fX16_reset at h
  have hS : Zq M M := Zq.rf
  obtain ⟨v1, ev1, h⟩ := bd h
  obtain ⟨v2, ev2, h⟩ := bd h
  obtain ⟨M3, eM3, h⟩ := bd h
  have w := z_pI hB eM3 (by decide)
  have hS := hS.tr w.1
  have hB := w.2
  obtain ⟨q4, eq4, h⟩ := bd h
  have rq4 := z_rc (z_some ra0) eq4
  obtain ⟨v6, M5, eM5, h⟩ := b2d h
  have w := zX16_is fu q4 (16 : Int32) M3 hB rq4 eM5
  have hS := hS.tr w.1
  have hB := w.2
  by_cases hc : v6 = 0
  · have h := (if_pos hc).symm.trans h
    obtain ⟨v7, ev7, h⟩ := bd h
    obtain ⟨v8, ev8, h⟩ := bd h
    obtain ⟨v9, ev9, h⟩ := bd h
    obtain ⟨v10, ev10, h⟩ := bd h
    obtain ⟨q11, eq11, h⟩ := bd h
    have rq11 := z_rc (z_some ra0) eq11
    obtain ⟨v13, M12, eM12, h⟩ := b2d h
    have w := zX16_extent fu q11  M5 hB rq11 eM12
    have hS := hS.tr w.1
    have hB := w.2
    obtain ⟨q14, eq14, h⟩ := bd h
    have rq14 := z_rc (z_some ra0) eq14
    obtain ⟨M15, eM15, h⟩ := bd h
    have w := zX16_segmentOut fu q14 v7 v8 v9 (0 : Int32) (v10 + v13) (20 : Int32) (0 : Int32) (0 : Int32) (0 : Int32) M12 hB rq14 eM15
    have hS := hS.tr w.1
    have hB := w.2
    obtain rfl := Option.some.inj h
    exact ⟨hS, hB⟩
  · have h := (if_neg hc).symm.trans h
    obtain ⟨v16, ev16, h⟩ := bd h
    obtain ⟨v17, ev17, h⟩ := bd h
    obtain ⟨v18, ev18, h⟩ := bd h
    obtain ⟨v19, ev19, h⟩ := bd h
    obtain ⟨q20, eq20, h⟩ := bd h
    have rq20 := z_rc (z_some ra0) eq20
    obtain ⟨M21, eM21, h⟩ := bd h
    have w := zX16_segmentOut fu q20 v16 v17 v18 v19 (0 : Int32) (4 : Int32) (0 : Int32) (0 : Int32) (0 : Int32) M5 hB rq20 eM21
    have hS := hS.tr w.1
    have hB := w.2
    obtain rfl := Option.some.inj h
    exact ⟨hS, hB⟩
theorem zX16_optionMss_L116 (fu : Nat) {out : Int32 × Mm} (k3 : Nat → Int32 → Mm → Option (Int32 × Mm)) (hk3 : ∀ (b0 : Nat) (b1 : Int32)  (M : Mm), RW M → b0 = 323 → k3 b0 b1 M = some out → Zq M out.2 ∧ RW out.2) (a0 : Nat) (a1 : Int32)  (M : Mm) (hB : RW M) (ra0 : a0 = 323) (h : fX16_optionMss_L116 fu k3 a0 a1 M = some out) : Zq M out.2 ∧ RW out.2 := by
  unfold fX16_optionMss_L116 at h
  have hS : Zq M M := Zq.rf
  have z := hk3 a0 a1 M hB ra0 h
  exact ⟨hS.tr z.1, z.2⟩
theorem zX16_optionMss_L112 (fu : Nat) {out : Int32 × Mm} (k3 : Nat → Int32 → Mm → Option (Int32 × Mm)) (hk3 : ∀ (b0 : Nat) (b1 : Int32)  (M : Mm), RW M → b0 = 323 → k3 b0 b1 M = some out → Zq M out.2 ∧ RW out.2) (a0 : Nat) (a1 : Int32) (a3 : Int32)  (M : Mm) (hB : RW M) (ra0 : a0 = 323) (h : fX16_optionMss_L112 fu k3 a0 a1 a3 M = some out) : Zq M out.2 ∧ RW out.2 := by
  unfold fX16_optionMss_L112 at h
  have hS : Zq M M := Zq.rf
  have z := zX16_optionMss_L116 fu k3 hk3 a0 (a1 + a3) M hB ra0 h
  exact ⟨hS.tr z.1, z.2⟩
theorem zX16_optionMss_L3 (fu : Nat) {out : Int32 × Mm}   : ∀ (n : Nat) (a0 : Nat) (a1 : Int32)  (M : Mm), RW M → a0 = 323 → fX16_optionMss_L3 fu  n a0 a1 M = some out → Zq M out.2 ∧ RW out.2 := by
  intro n
  induction n with
  | zero =>
    intro a0 a1 M hB ra0 h
    have h : (none : Option (Int32 × Mm)) = some out := h
    cases h
  | succ n ih =>
    intro a0 a1 M hB ra0 h
    rw [fX16_optionMss_L3] at h
    have hS : Zq M M := Zq.rf
    obtain ⟨v1, ev1, h⟩ := bd h
    by_cases hc : v1 ≤ a1
    · have h := (if_pos hc).symm.trans h
      obtain rfl := Option.some.inj h
      exact ⟨hS, hB⟩
    · have h := (if_neg hc).symm.trans h
      obtain ⟨v2, ev2, h⟩ := bd h
      obtain ⟨v3, ev3, h⟩ := bd h
      by_cases hc : v3 = 0
      · have h := (if_pos hc).symm.trans h
        obtain rfl := Option.some.inj h
        exact ⟨hS, hB⟩
      · have h := (if_neg hc).symm.trans h
        by_cases hc : v3 = (1 : Int32)
        · have h := (if_pos hc).symm.trans h
          have z := zX16_optionMss_L116 fu (fun b0 b1 M => fX16_optionMss_L3 fu  n b0 b1 M) ih a0 (a1 + (1 : Int32)) M hB ra0 h
          exact ⟨hS.tr z.1, z.2⟩
        · have h := (if_neg hc).symm.trans h
          obtain ⟨v4, ev4, h⟩ := bd h
          by_cases hc : (a1 + (1 : Int32)) < v4
          · have h := (if_pos hc).symm.trans h
            obtain ⟨v5, ev5, h⟩ := bd h
            obtain ⟨v6, ev6, h⟩ := bd h
            by_cases hc : (v6 &&& (255 : Int32)) < (2 : Int32)
            · have h := (if_pos hc).symm.trans h
              obtain rfl := Option.some.inj h
              exact ⟨hS, hB⟩
            · have h := (if_neg hc).symm.trans h
              obtain ⟨v7, ev7, h⟩ := bd h
              by_cases hc : (a1 + (v6 &&& (255 : Int32))) ≤ v7
              · have h := (if_pos hc).symm.trans h
                by_cases hc : v3 = (2 : Int32)
                · have h := (if_pos hc).symm.trans h
                  by_cases hc : (v6 &&& (255 : Int32)) = (4 : Int32)
                  · have h := (if_pos hc).symm.trans h
                    obtain ⟨q8, eq8, h⟩ := bd h
                    have rq8 := z_rc (z_some ra0) eq8
                    obtain ⟨v10, M9, eM9, h⟩ := b2d h
                    have w := zX16_half fu q8 (a1 + (2 : Int32)) M hB rq8 eM9
                    have hS := hS.tr w.1
                    have hB := w.2
                    obtain rfl := Option.some.inj h
                    exact ⟨hS, hB⟩
                  · have h := (if_neg hc).symm.trans h
                    have z := zX16_optionMss_L112 fu (fun b0 b1 M => fX16_optionMss_L3 fu  n b0 b1 M) ih a0 a1 (v6 &&& (255 : Int32)) M hB ra0 h
                    exact ⟨hS.tr z.1, z.2⟩
                · have h := (if_neg hc).symm.trans h
                  have z := zX16_optionMss_L112 fu (fun b0 b1 M => fX16_optionMss_L3 fu  n b0 b1 M) ih a0 a1 (v6 &&& (255 : Int32)) M hB ra0 h
                  exact ⟨hS.tr z.1, z.2⟩
              · have h := (if_neg hc).symm.trans h
                obtain rfl := Option.some.inj h
                exact ⟨hS, hB⟩
          · have h := (if_neg hc).symm.trans h
            obtain rfl := Option.some.inj h
            exact ⟨hS, hB⟩
theorem zX16_optionMss (fu : Nat)   (a0 : Nat)  (M : Mm) {out : Int32 × Mm} (hB : RW M) (ra0 : a0 = 323) (h : fX16_optionMss fu  a0 M = some out) : Zq M out.2 ∧ RW out.2 := by
  unfold fX16_optionMss at h
  have hS : Zq M M := Zq.rf
  have z := zX16_optionMss_L3 fu   fu a0 (20 : Int32) M hB ra0 h
  exact ⟨hS.tr z.1, z.2⟩
theorem zX16_pays (fu : Nat)   (a0 : Nat) (a1 : Option Nat)  (M : Mm) {out : Mm} (hB : RW M) (ra0 : a0 = 323) (h : fX16_pays fu  a0 a1 M = some out) : Zq M out ∧ RW out := by
  unfold fX16_pays at h
  have hS : Zq M M := Zq.rf
  obtain ⟨M1, eM1, h⟩ := bd h
  have w := z_pZ hB eM1 (by decide)
  have hS := hS.tr w.1
  have hB := w.2
  obtain ⟨q2, eq2, h⟩ := bd h
  obtain ⟨v4, M3, eM3, h⟩ := b2d h
  have w := zX12_open fu q2  M1 hB  eM3
  have hS := hS.tr w.1
  have hB := w.2
  obtain ⟨M5, eM5, h⟩ := bd h
  have w := z_pF hB eM5 (by decide)
  have hS := hS.tr w.1
  have hB := w.2
  obtain rfl := Option.some.inj h
  exact ⟨hS, hB⟩
theorem zX16_before (fu : Nat)   (a0 : Int32) (a1 : Int32)  (M : Mm) {out : Int32 × Mm} (hB : RW M)  (h : fX16_before fu  a0 a1 M = some out) : Zq M out.2 ∧ RW out.2 := by
  unfold fX16_before at h
  have hS : Zq M M := Zq.rf
  by_cases hc : 0 ≤ (a0 - a1)
  · have h := (if_pos hc).symm.trans h
    obtain ⟨hz, rfl⟩ := rN_some h
    exact ⟨hS, hB⟩
  · have h := (if_neg hc).symm.trans h
    obtain ⟨hz, rfl⟩ := rN_some h
    exact ⟨hS, hB⟩
theorem zX16_timerSet (fu : Nat)   (a0 : Nat) (a1 : Option Nat)  (M : Mm) {out : Mm} (hB : RW M) (ra0 : a0 = 323) (h : fX16_timerSet fu  a0 a1 M = some out) : Zq M out ∧ RW out := by
  unfold fX16_timerSet at h
  have hS : Zq M M := Zq.rf
  obtain ⟨M1, eM1, h⟩ := bd h
  have w := z_pZ hB eM1 (by decide)
  have hS := hS.tr w.1
  have hB := w.2
  obtain ⟨v2, ev2, h⟩ := bd h
  obtain ⟨v3, ev3, h⟩ := bd h
  obtain ⟨M4, eM4, h⟩ := bd h
  have w := z_pF hB eM4 (by decide)
  have hS := hS.tr w.1
  have hB := w.2
  obtain rfl := Option.some.inj h
  exact ⟨hS, hB⟩
theorem zX16_noted_L54 (fu : Nat)   (a0 : Nat) (a1 : Option Nat)  (M : Mm) {out : Mm} (hB : RW M) (ra0 : a0 = 323) (h : fX16_noted_L54 fu  a0 a1 M = some out) : Zq M out ∧ RW out := by
  unfold fX16_noted_L54 at h
  have hS : Zq M M := Zq.rf
  obtain ⟨v1, ev1, h⟩ := bd h
  by_cases hc : v1 = 0
  · have h := (if_pos hc).symm.trans h
    obtain ⟨q2, eq2, h⟩ := bd h
    have rq2 := z_rc (z_some ra0) eq2
    obtain ⟨M3, eM3, h⟩ := bd h
    have w := zX16_timerSet fu q2 a1 M hB rq2 eM3
    have hS := hS.tr w.1
    have hB := w.2
    obtain rfl := Option.some.inj h
    exact ⟨hS, hB⟩
  · have h := (if_neg hc).symm.trans h
    obtain rfl := Option.some.inj h
    exact ⟨hS, hB⟩
theorem zX16_noted (fu : Nat)   (a0 : Nat) (a1 : Option Nat) (a2 : Int32)  (M : Mm) {out : Mm} (hB : RW M) (ra0 : a0 = 323) (h : fX16_noted fu  a0 a1 a2 M = some out) : Zq M out ∧ RW out := by
  unfold fX16_noted at h
  have hS : Zq M M := Zq.rf
  obtain ⟨v1, ev1, h⟩ := bd h
  obtain ⟨v3, M2, eM2, h⟩ := b2d h
  have w := zX16_before fu  a2 v1 M hB  eM2
  have hS := hS.tr w.1
  have hB := w.2
  by_cases hc : v3 = 0
  · have h := (if_pos hc).symm.trans h
    obtain ⟨v4, ev4, h⟩ := bd h
    by_cases hc : v4 = 0
    · have h := (if_pos hc).symm.trans h
      obtain ⟨M5, eM5, h⟩ := bd h
      have w := z_pZ hB eM5 (by decide)
      have hS := hS.tr w.1
      have hB := w.2
      obtain ⟨M6, eM6, h⟩ := bd h
      have w := z_pF hB eM6 (by decide)
      have hS := hS.tr w.1
      have hB := w.2
      obtain ⟨v7, ev7, h⟩ := bd h
      obtain ⟨M8, eM8, h⟩ := bd h
      have w := z_pF hB eM8 (by decide)
      have hS := hS.tr w.1
      have hB := w.2
      have z := zX16_noted_L54 fu   a0 a1 M8 hB ra0 h
      exact ⟨hS.tr z.1, z.2⟩
    · have h := (if_neg hc).symm.trans h
      have z := zX16_noted_L54 fu   a0 a1 M2 hB ra0 h
      exact ⟨hS.tr z.1, z.2⟩
  · have h := (if_neg hc).symm.trans h
    obtain ⟨v9, ev9, h⟩ := bd h
    obtain ⟨v10, ev10, h⟩ := bd h
    obtain ⟨M11, eM11, h⟩ := bd h
    have w := z_pI hB eM11 (by decide)
    have hS := hS.tr w.1
    have hB := w.2
    obtain ⟨M12, eM12, h⟩ := bd h
    have w := z_pZ hB eM12 (by decide)
    have hS := hS.tr w.1
    have hB := w.2
    have z := zX16_noted_L54 fu   a0 a1 M12 hB ra0 h
    exact ⟨hS.tr z.1, z.2⟩
theorem zX16_synAck (fu : Nat)   (a0 : Nat) (a1 : Option Nat)  (M : Mm) {out : Mm} (hB : RW M) (ra0 : a0 = 323) (h : fX16_synAck fu  a0 a1 M = some out) : Zq M out ∧ RW out := by
  unfold fX16_synAck at h
  have hS : Zq M M := Zq.rf
  obtain ⟨v1, ev1, h⟩ := bd h
  obtain ⟨v2, ev2, h⟩ := bd h
  obtain ⟨v3, ev3, h⟩ := bd h
  obtain ⟨v4, ev4, h⟩ := bd h
  obtain ⟨q5, eq5, h⟩ := bd h
  obtain ⟨v7, M6, eM6, h⟩ := b2d h
  have w := zX12_open fu q5  M hB  eM6
  have hS := hS.tr w.1
  have hB := w.2
  obtain ⟨q8, eq8, h⟩ := bd h
  have rq8 := z_rc (z_some ra0) eq8
  obtain ⟨M9, eM9, h⟩ := bd h
  have w := zX16_segmentOut fu q8 v1 (80 : Int32) v2 v3 v4 (18 : Int32) v7 (4 : Int32) (0 : Int32) M6 hB rq8 eM9
  have hS := hS.tr w.1
  have hB := w.2
  obtain ⟨q10, eq10, h⟩ := bd h
  have rq10 := z_rc (z_some ra0) eq10
  obtain ⟨M11, eM11, h⟩ := bd h
  have w := zX16_pays fu q10 a1 M9 hB rq10 eM11
  have hS := hS.tr w.1
  have hB := w.2
  obtain ⟨v12, ev12, h⟩ := bd h
  obtain ⟨q13, eq13, h⟩ := bd h
  have rq13 := z_rc (z_some ra0) eq13
  obtain ⟨M14, eM14, h⟩ := bd h
  have w := zX16_noted fu q13 a1 v12 M11 hB rq13 eM14
  have hS := hS.tr w.1
  have hB := w.2
  obtain ⟨v15, ev15, h⟩ := bd h
  obtain ⟨M16, eM16, h⟩ := bd h
  have w := z_pF hB eM16 (by decide)
  have hS := hS.tr w.1
  have hB := w.2
  obtain ⟨v17, ev17, h⟩ := bd h
  obtain ⟨v18, ev18, h⟩ := bd h
  obtain ⟨v20, M19, eM19, h⟩ := b2d h
  have w := zX16_before fu  v17 v18 M16 hB  eM19
  have hS := hS.tr w.1
  have hB := w.2
  by_cases hc : v20 = 0
  · have h := (if_pos hc).symm.trans h
    obtain rfl := Option.some.inj h
    exact ⟨hS, hB⟩
  · have h := (if_neg hc).symm.trans h
    obtain ⟨v21, ev21, h⟩ := bd h
    obtain ⟨M22, eM22, h⟩ := bd h
    have w := z_pF hB eM22 (by decide)
    have hS := hS.tr w.1
    have hB := w.2
    obtain rfl := Option.some.inj h
    exact ⟨hS, hB⟩
theorem zX16_lies (fu : Nat)   (a0 : Option Nat) (a1 : Int32) (a2 : Int32)  (M : Mm) {out : Int32 × Mm} (hB : RW M)  (h : fX16_lies fu  a0 a1 a2 M = some out) : Zq M out.2 ∧ RW out.2 := by
  unfold fX16_lies at h
  have hS : Zq M M := Zq.rf
  obtain ⟨v1, ev1, h⟩ := bd h
  obtain ⟨v3, M2, eM2, h⟩ := b2d h
  have w := zX16_before fu  a1 v1 M hB  eM2
  have hS := hS.tr w.1
  have hB := w.2
  by_cases hc : v3 = 0
  · have h := (if_pos hc).symm.trans h
    obtain ⟨v4, ev4, h⟩ := bd h
    obtain ⟨v6, M5, eM5, h⟩ := b2d h
    have w := zX16_before fu  a1 (v4 + a2) M2 hB  eM5
    have hS := hS.tr w.1
    have hB := w.2
    by_cases hc : v6 = 0
    · have h := (if_pos hc).symm.trans h
      obtain ⟨hz, rfl⟩ := rN_some h
      exact ⟨hS, hB⟩
    · have h := (if_neg hc).symm.trans h
      obtain ⟨hz, rfl⟩ := rN_some h
      exact ⟨hS, hB⟩
  · have h := (if_neg hc).symm.trans h
    obtain ⟨hz, rfl⟩ := rN_some h
    exact ⟨hS, hB⟩
theorem zX16_isAcceptable (fu : Nat)   (a0 : Nat) (a1 : Option Nat)  (M : Mm) {out : Int32 × Mm} (hB : RW M) (ra0 : a0 = 323) (h : fX16_isAcceptable fu  a0 a1 M = some out) : Zq M out.2 ∧ RW out.2 := by
  unfold fX16_isAcceptable at h
  have hS : Zq M M := Zq.rf
  obtain ⟨q1, eq1, h⟩ := bd h
  obtain ⟨v3, M2, eM2, h⟩ := b2d h
  have w := zX12_open fu q1  M hB  eM2
  have hS := hS.tr w.1
  have hB := w.2
  obtain ⟨q4, eq4, h⟩ := bd h
  have rq4 := z_rc (z_some ra0) eq4
  obtain ⟨v6, M5, eM5, h⟩ := b2d h
  have w := zX16_extent fu q4  M2 hB rq4 eM5
  have hS := hS.tr w.1
  have hB := w.2
  by_cases hc : v3 = 0
  · have h := (if_pos hc).symm.trans h
    by_cases hc : v6 = 0
    · have h := (if_pos hc).symm.trans h
      obtain ⟨v13, ev13, h⟩ := bd h
      obtain ⟨v14, ev14, h⟩ := bd h
      by_cases hc : v13 = v14
      · have h := (if_pos hc).symm.trans h
        obtain ⟨hz, rfl⟩ := rN_some h
        exact ⟨hS, hB⟩
      · have h := (if_neg hc).symm.trans h
        obtain ⟨hz, rfl⟩ := rN_some h
        exact ⟨hS, hB⟩
    · have h := (if_neg hc).symm.trans h
      obtain ⟨hz, rfl⟩ := rN_some h
      exact ⟨hS, hB⟩
  · have h := (if_neg hc).symm.trans h
    obtain ⟨v7, ev7, h⟩ := bd h
    obtain ⟨v8, ev8, h⟩ := bd h
    obtain ⟨v10, M9, eM9, h⟩ := b2d h
    have w := zX16_lies fu  a1 v8 v3 M5 hB  eM9
    have hS := hS.tr w.1
    have hB := w.2
    by_cases hc : v10 = 0
    · have h := (if_pos hc).symm.trans h
      by_cases hc : v6 ≤ 0
      · have h := (if_pos hc).symm.trans h
        obtain ⟨hz, rfl⟩ := rN_some h
        exact ⟨hS, hB⟩
      · have h := (if_neg hc).symm.trans h
        obtain ⟨v12, M11, eM11, h⟩ := b2d h
        have w := zX16_lies fu  a1 ((v7 + v6) - (1 : Int32)) v3 M9 hB  eM11
        have hS := hS.tr w.1
        have hB := w.2
        by_cases hc : v12 = 0
        · have h := (if_pos hc).symm.trans h
          obtain ⟨hz, rfl⟩ := rN_some h
          exact ⟨hS, hB⟩
        · have h := (if_neg hc).symm.trans h
          obtain ⟨hz, rfl⟩ := rN_some h
          exact ⟨hS, hB⟩
    · have h := (if_neg hc).symm.trans h
      obtain ⟨hz, rfl⟩ := rN_some h
      exact ⟨hS, hB⟩
theorem zX16_acknowledge (fu : Nat)   (a0 : Nat) (a1 : Option Nat)  (M : Mm) {out : Mm} (hB : RW M) (ra0 : a0 = 323) (h : fX16_acknowledge fu  a0 a1 M = some out) : Zq M out ∧ RW out := by
  unfold fX16_acknowledge at h
  have hS : Zq M M := Zq.rf
  obtain ⟨v1, ev1, h⟩ := bd h
  obtain ⟨v2, ev2, h⟩ := bd h
  obtain ⟨v3, ev3, h⟩ := bd h
  obtain ⟨v4, ev4, h⟩ := bd h
  obtain ⟨q5, eq5, h⟩ := bd h
  obtain ⟨v7, M6, eM6, h⟩ := b2d h
  have w := zX12_open fu q5  M hB  eM6
  have hS := hS.tr w.1
  have hB := w.2
  obtain ⟨q8, eq8, h⟩ := bd h
  have rq8 := z_rc (z_some ra0) eq8
  obtain ⟨M9, eM9, h⟩ := bd h
  have w := zX16_segmentOut fu q8 v1 (80 : Int32) v2 v3 v4 (16 : Int32) v7 (0 : Int32) (0 : Int32) M6 hB rq8 eM9
  have hS := hS.tr w.1
  have hB := w.2
  obtain ⟨q10, eq10, h⟩ := bd h
  have rq10 := z_rc (z_some ra0) eq10
  obtain ⟨M11, eM11, h⟩ := bd h
  have w := zX16_pays fu q10 a1 M9 hB rq10 eM11
  have hS := hS.tr w.1
  have hB := w.2
  obtain rfl := Option.some.inj h
  exact ⟨hS, hB⟩
theorem zX16_gone (fu : Nat)   (a0 : Nat) (a1 : Option Nat)  (M : Mm) {out : Mm} (hB : RW M) (ra0 : a0 = 323) (h : fX16_gone fu  a0 a1 M = some out) : Zq M out ∧ RW out := by
  unfold fX16_gone at h
  have hS : Zq M M := Zq.rf
  obtain ⟨M1, eM1, h⟩ := bd h
  have w := z_pF hB eM1 (by decide)
  have hS := hS.tr w.1
  have hB := w.2
  obtain ⟨M2, eM2, h⟩ := bd h
  have w := z_pZ hB eM2 (by decide)
  have hS := hS.tr w.1
  have hB := w.2
  obtain rfl := Option.some.inj h
  exact ⟨hS, hB⟩
theorem zX16_isBehind (fu : Nat)   (a0 : Int32) (a1 : Int32)  (M : Mm) {out : Int32 × Mm} (hB : RW M)  (h : fX16_isBehind fu  a0 a1 M = some out) : Zq M out.2 ∧ RW out.2 := by
  unfold fX16_isBehind at h
  have hS : Zq M M := Zq.rf
  by_cases hc : (a0 - a1) ≤ 0
  · have h := (if_pos hc).symm.trans h
    obtain ⟨hz, rfl⟩ := rN_some h
    exact ⟨hS, hB⟩
  · have h := (if_neg hc).symm.trans h
    obtain ⟨hz, rfl⟩ := rN_some h
    exact ⟨hS, hB⟩
theorem zX16_measure_L73 (fu : Nat)   (a0 : Option Nat)  (M : Mm) {out : Mm} (hB : RW M)  (h : fX16_measure_L73 fu  a0 M = some out) : Zq M out ∧ RW out := by
  unfold fX16_measure_L73 at h
  have hS : Zq M M := Zq.rf
  obtain ⟨v1, ev1, h⟩ := bd h
  obtain ⟨v2, ev2, h⟩ := bd h
  obtain ⟨v3, ev3, h⟩ := bd h
  obtain ⟨M4, eM4, h⟩ := bd h
  have w := z_pF hB eM4 (by decide)
  have hS := hS.tr w.1
  have hB := w.2
  obtain rfl := Option.some.inj h
  exact ⟨hS, hB⟩
theorem zX16_measure_L31 (fu : Nat)   (a0 : Option Nat) (a1 : Int32) (s0 : Option Nat) (s1 : Int32) (s2 : Int32) (M : Mm) {out : Mm} (hB : RW M)  (h : fX16_measure_L31 fu  a0 a1 s0 s1 s2 M = some out) : Zq M out ∧ RW out := by
  unfold fX16_measure_L31 at h
  have hS : Zq M M := Zq.rf
  obtain ⟨M1, eM1, h⟩ := bd h
  have w := z_pF hB eM1 (by decide)
  have hS := hS.tr w.1
  have hB := w.2
  obtain ⟨v2, ev2, h⟩ := bd h
  obtain ⟨M3, eM3, h⟩ := bd h
  have w := z_pF hB eM3 (by decide)
  have hS := hS.tr w.1
  have hB := w.2
  have z := zX16_measure_L73 fu   a0 M3 hB  h
  exact ⟨hS.tr z.1, z.2⟩
theorem zX16_measure (fu : Nat)   (a0 : Option Nat) (a1 : Int32)  (M : Mm) {out : Mm} (hB : RW M)  (h : fX16_measure fu  a0 a1 M = some out) : Zq M out ∧ RW out := by
  unfold fX16_measure at h
  have hS : Zq M M := Zq.rf
  obtain ⟨v1, ev1, h⟩ := bd h
  by_cases hc : v1 = 0
  · have h := (if_pos hc).symm.trans h
    obtain ⟨M2, eM2, h⟩ := bd h
    have w := z_pZ hB eM2 (by decide)
    have hS := hS.tr w.1
    have hB := w.2
    obtain ⟨M3, eM3, h⟩ := bd h
    have w := z_pF hB eM3 (by decide)
    have hS := hS.tr w.1
    have hB := w.2
    obtain ⟨M4, eM4, h⟩ := bd h
    have w := z_pF hB eM4 (by decide)
    have hS := hS.tr w.1
    have hB := w.2
    have z := zX16_measure_L73 fu   a0 M4 hB  h
    exact ⟨hS.tr z.1, z.2⟩
  · have h := (if_neg hc).symm.trans h
    obtain ⟨v5, ev5, h⟩ := bd h
    obtain ⟨v6, ev6, h⟩ := bd h
    by_cases hc : 0 ≤ (v5 - a1)
    · have h := (if_pos hc).symm.trans h
      have z := zX16_measure_L31 fu   a0 a1 a0 ((3 : Int32) * v6) (v5 - a1) M hB  h
      exact ⟨hS.tr z.1, z.2⟩
    · have h := (if_neg hc).symm.trans h
      have z := zX16_measure_L31 fu   a0 a1 a0 ((3 : Int32) * v6) (-(v5 - a1)) M hB  h
      exact ⟨hS.tr z.1, z.2⟩
theorem zX16_fresh_L198 (fu : Nat)   (a0 : Nat) (a1 : Option Nat)  (M : Mm) {out : Mm} (hB : RW M) (ra0 : a0 = 323) (h : fX16_fresh_L198 fu  a0 a1 M = some out) : Zq M out ∧ RW out := by
  unfold fX16_fresh_L198 at h
  have hS : Zq M M := Zq.rf
  obtain ⟨M1, eM1, h⟩ := bd h
  have w := z_pF hB eM1 (by decide)
  have hS := hS.tr w.1
  have hB := w.2
  obtain ⟨v2, ev2, h⟩ := bd h
  obtain ⟨M3, eM3, h⟩ := bd h
  have w := z_pF hB eM3 (by decide)
  have hS := hS.tr w.1
  have hB := w.2
  obtain ⟨M4, eM4, h⟩ := bd h
  have w := z_pZ hB eM4 (by decide)
  have hS := hS.tr w.1
  have hB := w.2
  obtain ⟨v5, ev5, h⟩ := bd h
  obtain ⟨v6, ev6, h⟩ := bd h
  obtain ⟨v8, M7, eM7, h⟩ := b2d h
  have w := zX16_before fu  v5 v6 M4 hB  eM7
  have hS := hS.tr w.1
  have hB := w.2
  by_cases hc : v8 = 0
  · have h := (if_pos hc).symm.trans h
    obtain rfl := Option.some.inj h
    exact ⟨hS, hB⟩
  · have h := (if_neg hc).symm.trans h
    obtain ⟨q9, eq9, h⟩ := bd h
    have rq9 := z_rc (z_some ra0) eq9
    obtain ⟨M10, eM10, h⟩ := bd h
    have w := zX16_timerSet fu q9 a1 M7 hB rq9 eM10
    have hS := hS.tr w.1
    have hB := w.2
    obtain rfl := Option.some.inj h
    exact ⟨hS, hB⟩
theorem zX16_fresh_L182 (fu : Nat)   (a0 : Nat) (a1 : Option Nat) (s0 : Int32) (M : Mm) {out : Mm} (hB : RW M) (ra0 : a0 = 323) (h : fX16_fresh_L182 fu  a0 a1 s0 M = some out) : Zq M out ∧ RW out := by
  unfold fX16_fresh_L182 at h
  have hS : Zq M M := Zq.rf
  obtain ⟨v1, ev1, h⟩ := bd h
  obtain ⟨M2, eM2, h⟩ := bd h
  have w := z_pF hB eM2 (by decide)
  have hS := hS.tr w.1
  have hB := w.2
  have z := zX16_fresh_L198 fu   a0 a1 M2 hB ra0 h
  exact ⟨hS.tr z.1, z.2⟩
theorem zX16_fresh_L111 (fu : Nat)   (a0 : Nat) (a1 : Option Nat) (a2 : Int32)  (M : Mm) {out : Mm} (hB : RW M) (ra0 : a0 = 323) (h : fX16_fresh_L111 fu  a0 a1 a2 M = some out) : Zq M out ∧ RW out := by
  unfold fX16_fresh_L111 at h
  have hS : Zq M M := Zq.rf
  obtain ⟨v1, ev1, h⟩ := bd h
  by_cases hc : v1 = 0
  · have h := (if_pos hc).symm.trans h
    obtain ⟨v2, ev2, h⟩ := bd h
    by_cases hc : v2 = (1 : Int32)
    · have h := (if_pos hc).symm.trans h
      have z := zX16_fresh_L198 fu   a0 a1 M hB ra0 h
      exact ⟨hS.tr z.1, z.2⟩
    · have h := (if_neg hc).symm.trans h
      obtain ⟨v3, ev3, h⟩ := bd h
      obtain ⟨v4, ev4, h⟩ := bd h
      by_cases hc : v4 ≤ v3
      · have h := (if_pos hc).symm.trans h
        obtain ⟨v5, ev5, h⟩ := bd h
        obtain ⟨v6, ev6, h⟩ := bd h
        obtain ⟨v7, ev7, h⟩ := bd h
        by_cases hz : v7 = 0
        · rw [if_pos hz] at h; cases h
        have h := (if_neg hz).symm.trans h
        have z := zX16_fresh_L182 fu   a0 a1 (jmax (1 : Int32) ((v5 * v6) / v7)) M hB ra0 h
        exact ⟨hS.tr z.1, z.2⟩
      · have h := (if_neg hc).symm.trans h
        obtain ⟨v8, ev8, h⟩ := bd h
        have z := zX16_fresh_L182 fu   a0 a1 (jmin a2 v8) M hB ra0 h
        exact ⟨hS.tr z.1, z.2⟩
  · have h := (if_neg hc).symm.trans h
    obtain ⟨M9, eM9, h⟩ := bd h
    have w := z_pZ hB eM9 (by decide)
    have hS := hS.tr w.1
    have hB := w.2
    obtain ⟨v10, ev10, h⟩ := bd h
    obtain ⟨M11, eM11, h⟩ := bd h
    have w := z_pF hB eM11 (by decide)
    have hS := hS.tr w.1
    have hB := w.2
    have z := zX16_fresh_L198 fu   a0 a1 M11 hB ra0 h
    exact ⟨hS.tr z.1, z.2⟩
theorem zX16_fresh_L67 (fu : Nat)   (a0 : Nat) (a1 : Option Nat) (a2 : Int32)  (M : Mm) {out : Mm} (hB : RW M) (ra0 : a0 = 323) (h : fX16_fresh_L67 fu  a0 a1 a2 M = some out) : Zq M out ∧ RW out := by
  unfold fX16_fresh_L67 at h
  have hS : Zq M M := Zq.rf
  obtain ⟨M1, eM1, h⟩ := bd h
  have w := z_p0 hB eM1
  have hS := hS.tr w.1
  have hB := w.2
  obtain ⟨v2, ev2, h⟩ := bd h
  by_cases hc : v2 = 0
  · have h := (if_pos hc).symm.trans h
    have z := zX16_fresh_L111 fu   a0 a1 a2 M1 hB ra0 h
    exact ⟨hS.tr z.1, z.2⟩
  · have h := (if_neg hc).symm.trans h
    obtain ⟨v3, ev3, h⟩ := bd h
    obtain ⟨v4, ev4, h⟩ := bd h
    obtain ⟨v6, M5, eM5, h⟩ := b2d h
    have w := zX16_isBehind fu  v3 v4 M1 hB  eM5
    have hS := hS.tr w.1
    have hB := w.2
    by_cases hc : v6 = 0
    · have h := (if_pos hc).symm.trans h
      have z := zX16_fresh_L111 fu   a0 a1 a2 M5 hB ra0 h
      exact ⟨hS.tr z.1, z.2⟩
    · have h := (if_neg hc).symm.trans h
      obtain ⟨M7, eM7, h⟩ := bd h
      have w := z_pZ hB eM7 (by decide)
      have hS := hS.tr w.1
      have hB := w.2
      obtain ⟨v8, ev8, h⟩ := bd h
      obtain ⟨v9, ev9, h⟩ := bd h
      obtain ⟨M10, eM10, h⟩ := bd h
      have w := zX16_measure fu  a1 (v8 - v9) M7 hB  eM10
      have hS := hS.tr w.1
      have hB := w.2
      have z := zX16_fresh_L111 fu   a0 a1 a2 M10 hB ra0 h
      exact ⟨hS.tr z.1, z.2⟩
theorem zX16_fresh (fu : Nat)   (a0 : Nat) (a1 : Option Nat)  (M : Mm) {out : Mm} (hB : RW M) (ra0 : a0 = 323) (h : fX16_fresh fu  a0 a1 M = some out) : Zq M out ∧ RW out := by
  unfold fX16_fresh at h
  have hS : Zq M M := Zq.rf
  obtain ⟨v1, ev1, h⟩ := bd h
  obtain ⟨v2, ev2, h⟩ := bd h
  obtain ⟨v3, ev3, h⟩ := bd h
  obtain ⟨v4, ev4, h⟩ := bd h
  obtain ⟨M5, eM5, h⟩ := bd h
  have w := z_pI hB eM5 (by decide)
  have hS := hS.tr w.1
  have hB := w.2
  obtain ⟨v6, ev6, h⟩ := bd h
  obtain ⟨v7, ev7, h⟩ := bd h
  obtain ⟨v8, ev8, h⟩ := bd h
  obtain ⟨M9, eM9, h⟩ := bd h
  have w := z_pI hB eM9 (by decide)
  have hS := hS.tr w.1
  have hB := w.2
  obtain ⟨v10, ev10, h⟩ := bd h
  obtain ⟨M11, eM11, h⟩ := bd h
  have w := z_pF hB eM11 (by decide)
  have hS := hS.tr w.1
  have hB := w.2
  obtain ⟨v12, ev12, h⟩ := bd h
  obtain ⟨v13, ev13, h⟩ := bd h
  obtain ⟨v15, M14, eM14, h⟩ := b2d h
  have w := zX16_before fu  v12 v13 M11 hB  eM14
  have hS := hS.tr w.1
  have hB := w.2
  by_cases hc : v15 = 0
  · have h := (if_pos hc).symm.trans h
    have z := zX16_fresh_L67 fu   a0 a1 (v1 - v2) M14 hB ra0 h
    exact ⟨hS.tr z.1, z.2⟩
  · have h := (if_neg hc).symm.trans h
    obtain ⟨v16, ev16, h⟩ := bd h
    obtain ⟨M17, eM17, h⟩ := bd h
    have w := z_pF hB eM17 (by decide)
    have hS := hS.tr w.1
    have hB := w.2
    have z := zX16_fresh_L67 fu   a0 a1 (v1 - v2) M17 hB ra0 h
    exact ⟨hS.tr z.1, z.2⟩
theorem zX16_takeWindow (fu : Nat)   (a0 : Nat) (a1 : Option Nat)  (M : Mm) {out : Mm} (hB : RW M) (ra0 : a0 = 323) (h : fX16_takeWindow fu  a0 a1 M = some out) : Zq M out ∧ RW out := by
  unfold fX16_takeWindow at h
  have hS : Zq M M := Zq.rf
  obtain ⟨v1, ev1, h⟩ := bd h
  obtain ⟨M2, eM2, h⟩ := bd h
  have w := z_pF hB eM2 (by decide)
  have hS := hS.tr w.1
  have hB := w.2
  obtain ⟨v3, ev3, h⟩ := bd h
  obtain ⟨M4, eM4, h⟩ := bd h
  have w := z_pF hB eM4 (by decide)
  have hS := hS.tr w.1
  have hB := w.2
  obtain ⟨v5, ev5, h⟩ := bd h
  obtain ⟨M6, eM6, h⟩ := bd h
  have w := z_pF hB eM6 (by decide)
  have hS := hS.tr w.1
  have hB := w.2
  obtain rfl := Option.some.inj h
  exact ⟨hS, hB⟩
theorem zX16_toSend (fu : Nat)   (a0 : Nat) (a1 : Option Nat) (a2 : Int32)  (M : Mm) {out : Int32 × Mm} (hB : RW M) (ra0 : a0 = 323) (h : fX16_toSend fu  a0 a1 a2 M = some out) : Zq M out.2 ∧ RW out.2 := by
  unfold fX16_toSend at h
  have hS : Zq M M := Zq.rf
  obtain ⟨v1, ev1, h⟩ := bd h
  obtain ⟨v2, ev2, h⟩ := bd h
  by_cases hc : v2 ≤ (a2 - v1)
  · have h := (if_pos hc).symm.trans h
    obtain ⟨v3, ev3, h⟩ := bd h
    obtain ⟨v4, ev4, h⟩ := bd h
    obtain ⟨v5, ev5, h⟩ := bd h
    obtain ⟨v6, ev6, h⟩ := bd h
    obtain ⟨hz, rfl⟩ := rN_some h
    exact ⟨hS, hB⟩
  · have h := (if_neg hc).symm.trans h
    obtain ⟨v7, ev7, h⟩ := bd h
    obtain ⟨v8, ev8, h⟩ := bd h
    obtain ⟨hz, rfl⟩ := rN_some h
    exact ⟨hS, hB⟩
theorem zX16_dataOut_L113 (fu : Nat)   (a0 : Nat) (a1 : Option Nat) (a2 : Int32) (a3 : Int32) (a4 : Int32) (a5 : Int32)  (M : Mm) {out : Mm} (hB : RW M) (ra0 : a0 = 323) (h : fX16_dataOut_L113 fu  a0 a1 a2 a3 a4 a5 M = some out) : Zq M out ∧ RW out := by
  unfold fX16_dataOut_L113 at h
  have hS : Zq M M := Zq.rf
  obtain ⟨v1, ev1, h⟩ := bd h
  obtain ⟨v2, ev2, h⟩ := bd h
  obtain ⟨v3, ev3, h⟩ := bd h
  obtain ⟨q4, eq4, h⟩ := bd h
  obtain ⟨v6, M5, eM5, h⟩ := b2d h
  have w := zX12_open fu q4  M hB  eM5
  have hS := hS.tr w.1
  have hB := w.2
  obtain ⟨q7, eq7, h⟩ := bd h
  have rq7 := z_rc (z_some ra0) eq7
  obtain ⟨M8, eM8, h⟩ := bd h
  have w := zX16_segmentOut fu q7 v1 (80 : Int32) v2 a2 v3 a5 v6 (0 : Int32) a3 M5 hB rq7 eM8
  have hS := hS.tr w.1
  have hB := w.2
  obtain ⟨q9, eq9, h⟩ := bd h
  have rq9 := z_rc (z_some ra0) eq9
  obtain ⟨M10, eM10, h⟩ := bd h
  have w := zX16_pays fu q9 a1 M8 hB rq9 eM10
  have hS := hS.tr w.1
  have hB := w.2
  obtain ⟨q11, eq11, h⟩ := bd h
  have rq11 := z_rc (z_some ra0) eq11
  obtain ⟨M12, eM12, h⟩ := bd h
  have w := zX16_noted fu q11 a1 a2 M10 hB rq11 eM12
  have hS := hS.tr w.1
  have hB := w.2
  by_cases hc : a4 = 0
  · have h := (if_pos hc).symm.trans h
    obtain rfl := Option.some.inj h
    exact ⟨hS, hB⟩
  · have h := (if_neg hc).symm.trans h
    obtain ⟨v13, ev13, h⟩ := bd h
    by_cases hc : v13 = 0
    · have h := (if_pos hc).symm.trans h
      obtain ⟨M14, eM14, h⟩ := bd h
      have w := z_pZ hB eM14 (by decide)
      have hS := hS.tr w.1
      have hB := w.2
      obtain ⟨v15, ev15, h⟩ := bd h
      by_cases hc : v15 = (2 : Int32)
      · have h := (if_pos hc).symm.trans h
        obtain ⟨M17, eM17, h⟩ := bd h
        have w := z_pF hB eM17 (by decide)
        have hS := hS.tr w.1
        have hB := w.2
        obtain rfl := Option.some.inj h
        exact ⟨hS, hB⟩
      · have h := (if_neg hc).symm.trans h
        obtain ⟨M16, eM16, h⟩ := bd h
        have w := z_pF hB eM16 (by decide)
        have hS := hS.tr w.1
        have hB := w.2
        obtain rfl := Option.some.inj h
        exact ⟨hS, hB⟩
    · have h := (if_neg hc).symm.trans h
      obtain rfl := Option.some.inj h
      exact ⟨hS, hB⟩
theorem zX16_dataOut_L103 (fu : Nat)   (a0 : Nat) (a1 : Option Nat) (a2 : Int32) (a3 : Int32) (a4 : Int32) (a5 : Int32)  (M : Mm) {out : Mm} (hB : RW M) (ra0 : a0 = 323) (h : fX16_dataOut_L103 fu  a0 a1 a2 a3 a4 a5 M = some out) : Zq M out ∧ RW out := by
  unfold fX16_dataOut_L103 at h
  have hS : Zq M M := Zq.rf
  obtain ⟨v1, ev1, h⟩ := bd h
  obtain ⟨M2, eM2, h⟩ := bd h
  have w := z_pF hB eM2 (by decide)
  have hS := hS.tr w.1
  have hB := w.2
  have z := zX16_dataOut_L113 fu   a0 a1 a2 a3 a4 a5 M2 hB ra0 h
  exact ⟨hS.tr z.1, z.2⟩
theorem zX16_dataOut_L67 (fu : Nat)   (a0 : Nat) (a1 : Option Nat) (a2 : Int32) (a3 : Int32) (a4 : Int32) (s0 : Int32) (s1 : Int32) (M : Mm) {out : Mm} (hB : RW M) (ra0 : a0 = 323) (h : fX16_dataOut_L67 fu  a0 a1 a2 a3 a4 s0 s1 M = some out) : Zq M out ∧ RW out := by
  unfold fX16_dataOut_L67 at h
  have hS : Zq M M := Zq.rf
  obtain ⟨v1, ev1, h⟩ := bd h
  by_cases hc : v1 = (1 : Int32)
  · have h := (if_pos hc).symm.trans h
    have z := zX16_dataOut_L103 fu   a0 a1 a2 a3 a4 (s0 ||| s1) M hB ra0 h
    exact ⟨hS.tr z.1, z.2⟩
  · have h := (if_neg hc).symm.trans h
    obtain ⟨v2, ev2, h⟩ := bd h
    by_cases hc : v2 = (6 : Int32)
    · have h := (if_pos hc).symm.trans h
      have z := zX16_dataOut_L103 fu   a0 a1 a2 a3 a4 (s0 ||| s1) M hB ra0 h
      exact ⟨hS.tr z.1, z.2⟩
    · have h := (if_neg hc).symm.trans h
      obtain ⟨v3, ev3, h⟩ := bd h
      by_cases hc : v3 = (4 : Int32)
      · have h := (if_pos hc).symm.trans h
        have z := zX16_dataOut_L103 fu   a0 a1 a2 a3 a4 (s0 ||| s1) M hB ra0 h
        exact ⟨hS.tr z.1, z.2⟩
      · have h := (if_neg hc).symm.trans h
        obtain ⟨v4, ev4, h⟩ := bd h
        by_cases hc : a3 ≤ v4
        · have h := (if_pos hc).symm.trans h
          have z := zX16_dataOut_L113 fu   a0 a1 a2 a3 a4 (s0 ||| s1) M hB ra0 h
          exact ⟨hS.tr z.1, z.2⟩
        · have h := (if_neg hc).symm.trans h
          have z := zX16_dataOut_L103 fu   a0 a1 a2 a3 a4 (s0 ||| s1) M hB ra0 h
          exact ⟨hS.tr z.1, z.2⟩
theorem zX16_dataOut_L56 (fu : Nat)   (a0 : Nat) (a1 : Option Nat) (a2 : Int32) (a3 : Int32) (a4 : Int32) (s0 : Int32) (s1 : Int32) (M : Mm) {out : Mm} (hB : RW M) (ra0 : a0 = 323) (h : fX16_dataOut_L56 fu  a0 a1 a2 a3 a4 s0 s1 M = some out) : Zq M out ∧ RW out := by
  unfold fX16_dataOut_L56 at h
  have hS : Zq M M := Zq.rf
  by_cases hc : a4 = 0
  · have h := (if_pos hc).symm.trans h
    have z := zX16_dataOut_L67 fu   a0 a1 a2 a3 a4 (s0 ||| s1) (0 : Int32) M hB ra0 h
    exact ⟨hS.tr z.1, z.2⟩
  · have h := (if_neg hc).symm.trans h
    have z := zX16_dataOut_L67 fu   a0 a1 a2 a3 a4 (s0 ||| s1) (1 : Int32) M hB ra0 h
    exact ⟨hS.tr z.1, z.2⟩
theorem zX16_dataOut_L55 (fu : Nat)   (a0 : Nat) (a1 : Option Nat) (a2 : Int32) (a3 : Int32) (a4 : Int32) (s0 : Int32) (M : Mm) {out : Mm} (hB : RW M) (ra0 : a0 = 323) (h : fX16_dataOut_L55 fu  a0 a1 a2 a3 a4 s0 M = some out) : Zq M out ∧ RW out := by
  unfold fX16_dataOut_L55 at h
  have hS : Zq M M := Zq.rf
  have z := zX16_dataOut_L56 fu   a0 a1 a2 a3 a4 s0 (0 : Int32) M hB ra0 h
  exact ⟨hS.tr z.1, z.2⟩
theorem zX16_dataOut_L3 (fu : Nat) {out : Mm}   : ∀ (n : Nat) (a0 : Nat) (a1 : Option Nat) (a2 : Int32) (a3 : Int32) (a4 : Int32) (a5 : Int32)  (M : Mm), RW M → a0 = 323 → fX16_dataOut_L3 fu  n a0 a1 a2 a3 a4 a5 M = some out → Zq M out ∧ RW out := by
  intro n
  induction n with
  | zero =>
    intro a0 a1 a2 a3 a4 a5 M hB ra0 h
    have h : (none : Option (Mm)) = some out := h
    cases h
  | succ n ih =>
    intro a0 a1 a2 a3 a4 a5 M hB ra0 h
    rw [fX16_dataOut_L3] at h
    have hS : Zq M M := Zq.rf
    by_cases hc : a3 ≤ a5
    · have h := (if_pos hc).symm.trans h
      by_cases hc : a3 ≤ 0
      · have h := (if_pos hc).symm.trans h
        have z := zX16_dataOut_L55 fu   a0 a1 a2 a3 a4 (16 : Int32) M hB ra0 h
        exact ⟨hS.tr z.1, z.2⟩
      · have h := (if_neg hc).symm.trans h
        obtain ⟨q1, eq1, h⟩ := bd h
        obtain ⟨v3, M2, eM2, h⟩ := b2d h
        have w := zX12_behind fu q1  M hB  eM2
        have hS := hS.tr w.1
        have hB := w.2
        by_cases hc : (a2 + a3) = v3
        · have h := (if_pos hc).symm.trans h
          have z := zX16_dataOut_L56 fu   a0 a1 a2 a3 a4 (16 : Int32) (8 : Int32) M2 hB ra0 h
          exact ⟨hS.tr z.1, z.2⟩
        · have h := (if_neg hc).symm.trans h
          have z := zX16_dataOut_L55 fu   a0 a1 a2 a3 a4 (16 : Int32) M2 hB ra0 h
          exact ⟨hS.tr z.1, z.2⟩
    · have h := (if_neg hc).symm.trans h
      obtain ⟨v4, ev4, h⟩ := bd h
      obtain ⟨q5, eq5, h⟩ := bd h
      have rq5 := z_rc (z_some ra0) eq5
      obtain ⟨v7, M6, eM6, h⟩ := b2d h
      have w := zX16_toSend fu q5 a1 (a2 + a5) M hB rq5 eM6
      have hS := hS.tr w.1
      have hB := w.2
      obtain ⟨M8, eM8, h⟩ := bd h
      have w := z_pA hB (by decide) eM8
      have hS := hS.tr w.1
      have hB := w.2
      have z := ih a0 a1 a2 a3 a4 (a5 + (1 : Int32)) M8 hB ra0 h
      exact ⟨hS.tr z.1, z.2⟩
theorem zX16_dataOut (fu : Nat)   (a0 : Nat) (a1 : Option Nat) (a2 : Int32) (a3 : Int32) (a4 : Int32)  (M : Mm) {out : Mm} (hB : RW M) (ra0 : a0 = 323) (h : fX16_dataOut fu  a0 a1 a2 a3 a4 M = some out) : Zq M out ∧ RW out := by
  unfold fX16_dataOut at h
  have hS : Zq M M := Zq.rf
  have z := zX16_dataOut_L3 fu   fu a0 a1 a2 a3 a4 (0 : Int32) M hB ra0 h
  exact ⟨hS.tr z.1, z.2⟩
theorem zX16_duplicate_L98 (fu : Nat)   (a0 : Nat) (a1 : Option Nat) (a3 : Int32) (s0 : Int32) (M : Mm) {out : Mm} (hB : RW M) (ra0 : a0 = 323) (h : fX16_duplicate_L98 fu  a0 a1 a3 s0 M = some out) : Zq M out ∧ RW out := by
  unfold fX16_duplicate_L98 at h
  have hS : Zq M M := Zq.rf
  obtain ⟨v1, ev1, h⟩ := bd h
  obtain ⟨q2, eq2, h⟩ := bd h
  have rq2 := z_rc (z_some ra0) eq2
  obtain ⟨M3, eM3, h⟩ := bd h
  have w := zX16_dataOut fu q2 a1 v1 a3 s0 M hB rq2 eM3
  have hS := hS.tr w.1
  have hB := w.2
  obtain ⟨v4, ev4, h⟩ := bd h
  obtain ⟨v5, ev5, h⟩ := bd h
  obtain ⟨M6, eM6, h⟩ := bd h
  have w := z_pF hB eM6 (by decide)
  have hS := hS.tr w.1
  have hB := w.2
  obtain ⟨M7, eM7, h⟩ := bd h
  have w := z_pZ hB eM7 (by decide)
  have hS := hS.tr w.1
  have hB := w.2
  obtain rfl := Option.some.inj h
  exact ⟨hS, hB⟩
theorem zX16_duplicate_L97 (fu : Nat)   (a0 : Nat) (a1 : Option Nat) (a3 : Int32)  (M : Mm) {out : Mm} (hB : RW M) (ra0 : a0 = 323) (h : fX16_duplicate_L97 fu  a0 a1 a3 M = some out) : Zq M out ∧ RW out := by
  unfold fX16_duplicate_L97 at h
  have hS : Zq M M := Zq.rf
  have z := zX16_duplicate_L98 fu   a0 a1 a3 (0 : Int32) M hB ra0 h
  exact ⟨hS.tr z.1, z.2⟩
theorem zX16_duplicate (fu : Nat)   (a0 : Nat) (a1 : Option Nat)  (M : Mm) {out : Mm} (hB : RW M) (ra0 : a0 = 323) (h : fX16_duplicate fu  a0 a1 M = some out) : Zq M out ∧ RW out := by
  unfold fX16_duplicate at h
  have hS : Zq M M := Zq.rf
  obtain ⟨v1, ev1, h⟩ := bd h
  obtain ⟨M2, eM2, h⟩ := bd h
  have w := z_pF hB eM2 (by decide)
  have hS := hS.tr w.1
  have hB := w.2
  obtain ⟨v3, ev3, h⟩ := bd h
  by_cases hc : v3 = (3 : Int32)
  · have h := (if_pos hc).symm.trans h
    obtain ⟨v8, ev8, h⟩ := bd h
    obtain ⟨v9, ev9, h⟩ := bd h
    obtain ⟨v10, ev10, h⟩ := bd h
    obtain ⟨M11, eM11, h⟩ := bd h
    have w := z_pF hB eM11 (by decide)
    have hS := hS.tr w.1
    have hB := w.2
    obtain ⟨q12, eq12, h⟩ := bd h
    obtain ⟨v14, M13, eM13, h⟩ := b2d h
    have w := zX12_behind fu q12  M11 hB  eM13
    have hS := hS.tr w.1
    have hB := w.2
    obtain ⟨v15, ev15, h⟩ := bd h
    obtain ⟨v16, ev16, h⟩ := bd h
    obtain ⟨v17, ev17, h⟩ := bd h
    obtain ⟨v18, ev18, h⟩ := bd h
    obtain ⟨v19, ev19, h⟩ := bd h
    obtain ⟨v20, ev20, h⟩ := bd h
    by_cases hc : v20 = 0
    · have h := (if_pos hc).symm.trans h
      have z := zX16_duplicate_L97 fu   a0 a1 v19 M13 hB ra0 h
      exact ⟨hS.tr z.1, z.2⟩
    · have h := (if_neg hc).symm.trans h
      obtain ⟨v21, ev21, h⟩ := bd h
      obtain ⟨q22, eq22, h⟩ := bd h
      obtain ⟨v24, M23, eM23, h⟩ := b2d h
      have w := zX12_behind fu q22  M13 hB  eM23
      have hS := hS.tr w.1
      have hB := w.2
      by_cases hc : (v21 + v19) = v24
      · have h := (if_pos hc).symm.trans h
        have z := zX16_duplicate_L98 fu   a0 a1 v19 (1 : Int32) M23 hB ra0 h
        exact ⟨hS.tr z.1, z.2⟩
      · have h := (if_neg hc).symm.trans h
        have z := zX16_duplicate_L97 fu   a0 a1 v19 M23 hB ra0 h
        exact ⟨hS.tr z.1, z.2⟩
  · have h := (if_neg hc).symm.trans h
    obtain ⟨v4, ev4, h⟩ := bd h
    by_cases hc : v4 ≤ (3 : Int32)
    · have h := (if_pos hc).symm.trans h
      obtain rfl := Option.some.inj h
      exact ⟨hS, hB⟩
    · have h := (if_neg hc).symm.trans h
      obtain ⟨v5, ev5, h⟩ := bd h
      obtain ⟨v6, ev6, h⟩ := bd h
      obtain ⟨M7, eM7, h⟩ := bd h
      have w := z_pF hB eM7 (by decide)
      have hS := hS.tr w.1
      have hB := w.2
      obtain rfl := Option.some.inj h
      exact ⟨hS, hB⟩
theorem zX16_acknowledgement_L318 (fu : Nat)   (a0 : Nat) (a1 : Option Nat) (a2 : Int32)  (M : Mm) {out : Int32 × Mm} (hB : RW M) (ra0 : a0 = 323) (h : fX16_acknowledgement_L318 fu  a0 a1 a2 M = some out) : Zq M out.2 ∧ RW out.2 := by
  unfold fX16_acknowledgement_L318 at h
  have hS : Zq M M := Zq.rf
  by_cases hc : a2 = 0
  · have h := (if_pos hc).symm.trans h
    obtain ⟨hz, rfl⟩ := rN_some h
    exact ⟨hS, hB⟩
  · have h := (if_neg hc).symm.trans h
    obtain ⟨v1, ev1, h⟩ := bd h
    by_cases hc : v1 = (8 : Int32)
    · have h := (if_pos hc).symm.trans h
      obtain ⟨q2, eq2, h⟩ := bd h
      have rq2 := z_rc (z_some ra0) eq2
      obtain ⟨M3, eM3, h⟩ := bd h
      have w := zX16_gone fu q2 a1 M hB rq2 eM3
      have hS := hS.tr w.1
      have hB := w.2
      obtain ⟨hz, rfl⟩ := rN_some h
      exact ⟨hS, hB⟩
    · have h := (if_neg hc).symm.trans h
      obtain ⟨hz, rfl⟩ := rN_some h
      exact ⟨hS, hB⟩
theorem zX16_acknowledgement_L289 (fu : Nat)   (a0 : Nat) (a1 : Option Nat) (a2 : Int32)  (M : Mm) {out : Int32 × Mm} (hB : RW M) (ra0 : a0 = 323) (h : fX16_acknowledgement_L289 fu  a0 a1 a2 M = some out) : Zq M out.2 ∧ RW out.2 := by
  unfold fX16_acknowledgement_L289 at h
  have hS : Zq M M := Zq.rf
  by_cases hc : a2 = 0
  · have h := (if_pos hc).symm.trans h
    have z := zX16_acknowledgement_L318 fu   a0 a1 a2 M hB ra0 h
    exact ⟨hS.tr z.1, z.2⟩
  · have h := (if_neg hc).symm.trans h
    obtain ⟨v1, ev1, h⟩ := bd h
    by_cases hc : v1 = (5 : Int32)
    · have h := (if_pos hc).symm.trans h
      obtain ⟨M2, eM2, h⟩ := bd h
      have w := z_pF hB eM2 (by decide)
      have hS := hS.tr w.1
      have hB := w.2
      obtain ⟨v3, ev3, h⟩ := bd h
      obtain ⟨M4, eM4, h⟩ := bd h
      have w := z_pF hB eM4 (by decide)
      have hS := hS.tr w.1
      have hB := w.2
      obtain ⟨hz, rfl⟩ := rN_some h
      exact ⟨hS, hB⟩
    · have h := (if_neg hc).symm.trans h
      have z := zX16_acknowledgement_L318 fu   a0 a1 a2 M hB ra0 h
      exact ⟨hS.tr z.1, z.2⟩
theorem zX16_acknowledgement_L260 (fu : Nat)   (a0 : Nat) (a1 : Option Nat) (s0 : Int32) (M : Mm) {out : Int32 × Mm} (hB : RW M) (ra0 : a0 = 323) (h : fX16_acknowledgement_L260 fu  a0 a1 s0 M = some out) : Zq M out.2 ∧ RW out.2 := by
  unfold fX16_acknowledgement_L260 at h
  have hS : Zq M M := Zq.rf
  by_cases hc : s0 = 0
  · have h := (if_pos hc).symm.trans h
    have z := zX16_acknowledgement_L289 fu   a0 a1 s0 M hB ra0 h
    exact ⟨hS.tr z.1, z.2⟩
  · have h := (if_neg hc).symm.trans h
    obtain ⟨v1, ev1, h⟩ := bd h
    by_cases hc : v1 = (3 : Int32)
    · have h := (if_pos hc).symm.trans h
      obtain ⟨M2, eM2, h⟩ := bd h
      have w := z_pF hB eM2 (by decide)
      have hS := hS.tr w.1
      have hB := w.2
      obtain ⟨v3, ev3, h⟩ := bd h
      obtain ⟨M4, eM4, h⟩ := bd h
      have w := z_pF hB eM4 (by decide)
      have hS := hS.tr w.1
      have hB := w.2
      obtain ⟨hz, rfl⟩ := rN_some h
      exact ⟨hS, hB⟩
    · have h := (if_neg hc).symm.trans h
      have z := zX16_acknowledgement_L289 fu   a0 a1 s0 M hB ra0 h
      exact ⟨hS.tr z.1, z.2⟩
theorem zX16_acknowledgement_L259 (fu : Nat)   (a0 : Nat) (a1 : Option Nat)  (M : Mm) {out : Int32 × Mm} (hB : RW M) (ra0 : a0 = 323) (h : fX16_acknowledgement_L259 fu  a0 a1 M = some out) : Zq M out.2 ∧ RW out.2 := by
  unfold fX16_acknowledgement_L259 at h
  have hS : Zq M M := Zq.rf
  have z := zX16_acknowledgement_L260 fu   a0 a1 (0 : Int32) M hB ra0 h
  exact ⟨hS.tr z.1, z.2⟩
theorem zX16_acknowledgement_L235 (fu : Nat)   (a0 : Nat) (a1 : Option Nat)  (M : Mm) {out : Int32 × Mm} (hB : RW M) (ra0 : a0 = 323) (h : fX16_acknowledgement_L235 fu  a0 a1 M = some out) : Zq M out.2 ∧ RW out.2 := by
  unfold fX16_acknowledgement_L235 at h
  have hS : Zq M M := Zq.rf
  obtain ⟨v1, ev1, h⟩ := bd h
  by_cases hc : v1 = 0
  · have h := (if_pos hc).symm.trans h
    have z := zX16_acknowledgement_L259 fu   a0 a1 M hB ra0 h
    exact ⟨hS.tr z.1, z.2⟩
  · have h := (if_neg hc).symm.trans h
    obtain ⟨v2, ev2, h⟩ := bd h
    obtain ⟨q3, eq3, h⟩ := bd h
    obtain ⟨v5, M4, eM4, h⟩ := b2d h
    have w := zX12_behind fu q3  M hB  eM4
    have hS := hS.tr w.1
    have hB := w.2
    by_cases hc : v2 = (v5 + (1 : Int32))
    · have h := (if_pos hc).symm.trans h
      have z := zX16_acknowledgement_L260 fu   a0 a1 (1 : Int32) M4 hB ra0 h
      exact ⟨hS.tr z.1, z.2⟩
    · have h := (if_neg hc).symm.trans h
      have z := zX16_acknowledgement_L259 fu   a0 a1 M4 hB ra0 h
      exact ⟨hS.tr z.1, z.2⟩
theorem zX16_acknowledgement_L209 (fu : Nat)   (a0 : Nat) (a1 : Option Nat)  (M : Mm) {out : Int32 × Mm} (hB : RW M) (ra0 : a0 = 323) (h : fX16_acknowledgement_L209 fu  a0 a1 M = some out) : Zq M out.2 ∧ RW out.2 := by
  unfold fX16_acknowledgement_L209 at h
  have hS : Zq M M := Zq.rf
  obtain ⟨v1, ev1, h⟩ := bd h
  obtain ⟨v2, ev2, h⟩ := bd h
  obtain ⟨v4, M3, eM3, h⟩ := b2d h
  have w := zX16_before fu  v1 v2 M hB  eM3
  have hS := hS.tr w.1
  have hB := w.2
  by_cases hc : v4 = 0
  · have h := (if_pos hc).symm.trans h
    obtain ⟨v5, ev5, h⟩ := bd h
    by_cases hc : v5 = 0
    · have h := (if_pos hc).symm.trans h
      obtain ⟨M6, eM6, h⟩ := bd h
      have w := z_p0 hB eM6
      have hS := hS.tr w.1
      have hB := w.2
      have z := zX16_acknowledgement_L235 fu   a0 a1 M6 hB ra0 h
      exact ⟨hS.tr z.1, z.2⟩
    · have h := (if_neg hc).symm.trans h
      have z := zX16_acknowledgement_L235 fu   a0 a1 M3 hB ra0 h
      exact ⟨hS.tr z.1, z.2⟩
  · have h := (if_neg hc).symm.trans h
    have z := zX16_acknowledgement_L235 fu   a0 a1 M3 hB ra0 h
    exact ⟨hS.tr z.1, z.2⟩
theorem zX16_acknowledgement_L204 (fu : Nat)   (a0 : Nat) (a1 : Option Nat)  (M : Mm) {out : Int32 × Mm} (hB : RW M) (ra0 : a0 = 323) (h : fX16_acknowledgement_L204 fu  a0 a1 M = some out) : Zq M out.2 ∧ RW out.2 := by
  unfold fX16_acknowledgement_L204 at h
  have hS : Zq M M := Zq.rf
  obtain ⟨q1, eq1, h⟩ := bd h
  have rq1 := z_rc (z_some ra0) eq1
  obtain ⟨M2, eM2, h⟩ := bd h
  have w := zX16_takeWindow fu q1 a1 M hB rq1 eM2
  have hS := hS.tr w.1
  have hB := w.2
  have z := zX16_acknowledgement_L209 fu   a0 a1 M2 hB ra0 h
  exact ⟨hS.tr z.1, z.2⟩
theorem zX16_acknowledgement_L151 (fu : Nat)   (a0 : Nat) (a1 : Option Nat)  (M : Mm) {out : Int32 × Mm} (hB : RW M) (ra0 : a0 = 323) (h : fX16_acknowledgement_L151 fu  a0 a1 M = some out) : Zq M out.2 ∧ RW out.2 := by
  unfold fX16_acknowledgement_L151 at h
  have hS : Zq M M := Zq.rf
  obtain ⟨v1, ev1, h⟩ := bd h
  obtain ⟨v2, ev2, h⟩ := bd h
  obtain ⟨v4, M3, eM3, h⟩ := b2d h
  have w := zX16_before fu  v1 v2 M hB  eM3
  have hS := hS.tr w.1
  have hB := w.2
  by_cases hc : v4 = 0
  · have h := (if_pos hc).symm.trans h
    obtain ⟨v5, ev5, h⟩ := bd h
    obtain ⟨v6, ev6, h⟩ := bd h
    obtain ⟨v8, M7, eM7, h⟩ := b2d h
    have w := zX16_before fu  v5 v6 M3 hB  eM7
    have hS := hS.tr w.1
    have hB := w.2
    by_cases hc : v8 = 0
    · have h := (if_pos hc).symm.trans h
      obtain ⟨v9, ev9, h⟩ := bd h
      obtain ⟨v10, ev10, h⟩ := bd h
      by_cases hc : v9 = v10
      · have h := (if_pos hc).symm.trans h
        obtain ⟨v11, ev11, h⟩ := bd h
        obtain ⟨v12, ev12, h⟩ := bd h
        obtain ⟨v14, M13, eM13, h⟩ := b2d h
        have w := zX16_before fu  v11 v12 M7 hB  eM13
        have hS := hS.tr w.1
        have hB := w.2
        by_cases hc : v14 = 0
        · have h := (if_pos hc).symm.trans h
          have z := zX16_acknowledgement_L204 fu   a0 a1 M13 hB ra0 h
          exact ⟨hS.tr z.1, z.2⟩
        · have h := (if_neg hc).symm.trans h
          have z := zX16_acknowledgement_L209 fu   a0 a1 M13 hB ra0 h
          exact ⟨hS.tr z.1, z.2⟩
      · have h := (if_neg hc).symm.trans h
        have z := zX16_acknowledgement_L209 fu   a0 a1 M7 hB ra0 h
        exact ⟨hS.tr z.1, z.2⟩
    · have h := (if_neg hc).symm.trans h
      have z := zX16_acknowledgement_L204 fu   a0 a1 M7 hB ra0 h
      exact ⟨hS.tr z.1, z.2⟩
  · have h := (if_neg hc).symm.trans h
    have z := zX16_acknowledgement_L209 fu   a0 a1 M3 hB ra0 h
    exact ⟨hS.tr z.1, z.2⟩
theorem zX16_acknowledgement (fu : Nat)   (a0 : Nat) (a1 : Option Nat)  (M : Mm) {out : Int32 × Mm} (hB : RW M) (ra0 : a0 = 323) (h : fX16_acknowledgement fu  a0 a1 M = some out) : Zq M out.2 ∧ RW out.2 := by
  unfold fX16_acknowledgement at h
  have hS : Zq M M := Zq.rf
  obtain ⟨v1, ev1, h⟩ := bd h
  by_cases hc : v1 = (1 : Int32)
  · have h := (if_pos hc).symm.trans h
    obtain ⟨v27, ev27, h⟩ := bd h
    obtain ⟨v28, ev28, h⟩ := bd h
    by_cases hc : v27 = (v28 + (1 : Int32))
    · have h := (if_pos hc).symm.trans h
      obtain ⟨q29, eq29, h⟩ := bd h
      have rq29 := z_rc (z_some ra0) eq29
      obtain ⟨M30, eM30, h⟩ := bd h
      have w := zX16_fresh fu q29 a1 M hB rq29 eM30
      have hS := hS.tr w.1
      have hB := w.2
      obtain ⟨M31, eM31, h⟩ := bd h
      have w := z_pF hB eM31 (by decide)
      have hS := hS.tr w.1
      have hB := w.2
      obtain ⟨v32, ev32, h⟩ := bd h
      obtain ⟨M33, eM33, h⟩ := bd h
      have w := z_pF hB eM33 (by decide)
      have hS := hS.tr w.1
      have hB := w.2
      obtain ⟨v34, ev34, h⟩ := bd h
      obtain ⟨M35, eM35, h⟩ := bd h
      have w := z_pF hB eM35 (by decide)
      have hS := hS.tr w.1
      have hB := w.2
      obtain ⟨q36, eq36, h⟩ := bd h
      have rq36 := z_rc (z_some ra0) eq36
      obtain ⟨M37, eM37, h⟩ := bd h
      have w := zX16_takeWindow fu q36 a1 M35 hB rq36 eM37
      have hS := hS.tr w.1
      have hB := w.2
      obtain ⟨hz, rfl⟩ := rN_some h
      exact ⟨hS, hB⟩
    · have h := (if_neg hc).symm.trans h
      obtain ⟨q38, eq38, h⟩ := bd h
      have rq38 := z_rc (z_some ra0) eq38
      obtain ⟨M39, eM39, h⟩ := bd h
      have w := zX16_reset fu q38  M hB rq38 eM39
      have hS := hS.tr w.1
      have hB := w.2
      obtain ⟨hz, rfl⟩ := rN_some h
      exact ⟨hS, hB⟩
  · have h := (if_neg hc).symm.trans h
    obtain ⟨v2, ev2, h⟩ := bd h
    obtain ⟨v3, ev3, h⟩ := bd h
    obtain ⟨v5, M4, eM4, h⟩ := b2d h
    have w := zX16_isBehind fu  v2 v3 M hB  eM4
    have hS := hS.tr w.1
    have hB := w.2
    by_cases hc : v5 = 0
    · have h := (if_pos hc).symm.trans h
      obtain ⟨v6, ev6, h⟩ := bd h
      obtain ⟨v7, ev7, h⟩ := bd h
      obtain ⟨v9, M8, eM8, h⟩ := b2d h
      have w := zX16_isBehind fu  v6 v7 M4 hB  eM8
      have hS := hS.tr w.1
      have hB := w.2
      by_cases hc : v9 = 0
      · have h := (if_pos hc).symm.trans h
        obtain ⟨v10, ev10, h⟩ := bd h
        obtain ⟨v11, ev11, h⟩ := bd h
        by_cases hc : v10 = v11
        · have h := (if_pos hc).symm.trans h
          obtain ⟨q12, eq12, h⟩ := bd h
          have rq12 := z_rc (z_some ra0) eq12
          obtain ⟨v14, M13, eM13, h⟩ := b2d h
          have w := zX16_extent fu q12  M8 hB rq12 eM13
          have hS := hS.tr w.1
          have hB := w.2
          by_cases hc : v14 = 0
          · have h := (if_pos hc).symm.trans h
            obtain ⟨v15, ev15, h⟩ := bd h
            obtain ⟨v16, ev16, h⟩ := bd h
            by_cases hc : v15 = v16
            · have h := (if_pos hc).symm.trans h
              obtain ⟨v17, ev17, h⟩ := bd h
              obtain ⟨v18, ev18, h⟩ := bd h
              obtain ⟨v20, M19, eM19, h⟩ := b2d h
              have w := zX16_before fu  v17 v18 M13 hB  eM19
              have hS := hS.tr w.1
              have hB := w.2
              by_cases hc : v20 = 0
              · have h := (if_pos hc).symm.trans h
                have z := zX16_acknowledgement_L151 fu   a0 a1 M19 hB ra0 h
                exact ⟨hS.tr z.1, z.2⟩
              · have h := (if_neg hc).symm.trans h
                obtain ⟨q21, eq21, h⟩ := bd h
                have rq21 := z_rc (z_some ra0) eq21
                obtain ⟨M22, eM22, h⟩ := bd h
                have w := zX16_duplicate fu q21 a1 M19 hB rq21 eM22
                have hS := hS.tr w.1
                have hB := w.2
                have z := zX16_acknowledgement_L151 fu   a0 a1 M22 hB ra0 h
                exact ⟨hS.tr z.1, z.2⟩
            · have h := (if_neg hc).symm.trans h
              have z := zX16_acknowledgement_L151 fu   a0 a1 M13 hB ra0 h
              exact ⟨hS.tr z.1, z.2⟩
          · have h := (if_neg hc).symm.trans h
            have z := zX16_acknowledgement_L151 fu   a0 a1 M13 hB ra0 h
            exact ⟨hS.tr z.1, z.2⟩
        · have h := (if_neg hc).symm.trans h
          have z := zX16_acknowledgement_L151 fu   a0 a1 M8 hB ra0 h
          exact ⟨hS.tr z.1, z.2⟩
      · have h := (if_neg hc).symm.trans h
        obtain ⟨q23, eq23, h⟩ := bd h
        have rq23 := z_rc (z_some ra0) eq23
        obtain ⟨M24, eM24, h⟩ := bd h
        have w := zX16_fresh fu q23 a1 M8 hB rq23 eM24
        have hS := hS.tr w.1
        have hB := w.2
        have z := zX16_acknowledgement_L151 fu   a0 a1 M24 hB ra0 h
        exact ⟨hS.tr z.1, z.2⟩
    · have h := (if_neg hc).symm.trans h
      obtain ⟨q25, eq25, h⟩ := bd h
      have rq25 := z_rc (z_some ra0) eq25
      obtain ⟨M26, eM26, h⟩ := bd h
      have w := zX16_acknowledge fu q25 a1 M4 hB rq25 eM26
      have hS := hS.tr w.1
      have hB := w.2
      obtain ⟨hz, rfl⟩ := rN_some h
      exact ⟨hS, hB⟩
theorem zX16_takesData (fu : Nat)   (a0 : Option Nat)  (M : Mm) {out : Int32 × Mm} (hB : RW M)  (h : fX16_takesData fu  a0 M = some out) : Zq M out.2 ∧ RW out.2 := by
  unfold fX16_takesData at h
  have hS : Zq M M := Zq.rf
  obtain ⟨v1, ev1, h⟩ := bd h
  by_cases hc : v1 = (2 : Int32)
  · have h := (if_pos hc).symm.trans h
    obtain ⟨hz, rfl⟩ := rN_some h
    exact ⟨hS, hB⟩
  · have h := (if_neg hc).symm.trans h
    obtain ⟨v2, ev2, h⟩ := bd h
    by_cases hc : v2 = (3 : Int32)
    · have h := (if_pos hc).symm.trans h
      obtain ⟨hz, rfl⟩ := rN_some h
      exact ⟨hS, hB⟩
    · have h := (if_neg hc).symm.trans h
      obtain ⟨v3, ev3, h⟩ := bd h
      by_cases hc : v3 = (4 : Int32)
      · have h := (if_pos hc).symm.trans h
        obtain ⟨hz, rfl⟩ := rN_some h
        exact ⟨hS, hB⟩
      · have h := (if_neg hc).symm.trans h
        obtain ⟨hz, rfl⟩ := rN_some h
        exact ⟨hS, hB⟩
theorem zX16_arrived_L323 (fu : Nat)   (a0 : Nat) (a1 : Option Nat) (s0 : Option Nat) (s1 : Int32) (M : Mm) {out : Mm} (hB : RW M) (ra0 : a0 = 323) (h : fX16_arrived_L323 fu  a0 a1 s0 s1 M = some out) : Zq M out ∧ RW out := by
  unfold fX16_arrived_L323 at h
  have hS : Zq M M := Zq.rf
  obtain ⟨M1, eM1, h⟩ := bd h
  have w := z_pF hB eM1 (by decide)
  have hS := hS.tr w.1
  have hB := w.2
  obtain ⟨v2, ev2, h⟩ := bd h
  obtain ⟨M3, eM3, h⟩ := bd h
  have w := z_pF hB eM3 (by decide)
  have hS := hS.tr w.1
  have hB := w.2
  obtain rfl := Option.some.inj h
  exact ⟨hS, hB⟩
theorem zX16_arrived_L246 (fu : Nat)   (a0 : Nat) (a1 : Option Nat)  (M : Mm) {out : Mm} (hB : RW M) (ra0 : a0 = 323) (h : fX16_arrived_L246 fu  a0 a1 M = some out) : Zq M out ∧ RW out := by
  unfold fX16_arrived_L246 at h
  have hS : Zq M M := Zq.rf
  obtain ⟨v1, ev1, h⟩ := bd h
  by_cases hc : v1 = 0
  · have h := (if_pos hc).symm.trans h
    obtain rfl := Option.some.inj h
    exact ⟨hS, hB⟩
  · have h := (if_neg hc).symm.trans h
    obtain ⟨v2, ev2, h⟩ := bd h
    by_cases hc : v2 = 0
    · have h := (if_pos hc).symm.trans h
      obtain ⟨v3, ev3, h⟩ := bd h
      obtain ⟨v4, ev4, h⟩ := bd h
      by_cases hc : v3 = v4
      · have h := (if_pos hc).symm.trans h
        obtain ⟨M5, eM5, h⟩ := bd h
        have w := z_pZ hB eM5 (by decide)
        have hS := hS.tr w.1
        have hB := w.2
        obtain ⟨v6, ev6, h⟩ := bd h
        obtain ⟨M7, eM7, h⟩ := bd h
        have w := z_pF hB eM7 (by decide)
        have hS := hS.tr w.1
        have hB := w.2
        obtain ⟨M8, eM8, h⟩ := bd h
        have w := z_pZ hB eM8 (by decide)
        have hS := hS.tr w.1
        have hB := w.2
        obtain ⟨v9, ev9, h⟩ := bd h
        by_cases hc : v9 = (2 : Int32)
        · have h := (if_pos hc).symm.trans h
          obtain ⟨M11, eM11, h⟩ := bd h
          have w := z_pF hB eM11 (by decide)
          have hS := hS.tr w.1
          have hB := w.2
          obtain rfl := Option.some.inj h
          exact ⟨hS, hB⟩
        · have h := (if_neg hc).symm.trans h
          obtain ⟨v10, ev10, h⟩ := bd h
          by_cases hc : v10 = (3 : Int32)
          · have h := (if_pos hc).symm.trans h
            have z := zX16_arrived_L323 fu   a0 a1 a1 (5 : Int32) M8 hB ra0 h
            exact ⟨hS.tr z.1, z.2⟩
          · have h := (if_neg hc).symm.trans h
            have z := zX16_arrived_L323 fu   a0 a1 a1 (6 : Int32) M8 hB ra0 h
            exact ⟨hS.tr z.1, z.2⟩
      · have h := (if_neg hc).symm.trans h
        obtain rfl := Option.some.inj h
        exact ⟨hS, hB⟩
    · have h := (if_neg hc).symm.trans h
      obtain rfl := Option.some.inj h
      exact ⟨hS, hB⟩
theorem zX16_arrived_L233 (fu : Nat)   (a0 : Nat) (a1 : Option Nat)  (M : Mm) {out : Mm} (hB : RW M) (ra0 : a0 = 323) (h : fX16_arrived_L233 fu  a0 a1 M = some out) : Zq M out ∧ RW out := by
  unfold fX16_arrived_L233 at h
  have hS : Zq M M := Zq.rf
  obtain ⟨q1, eq1, h⟩ := bd h
  have rq1 := z_rc (z_some ra0) eq1
  obtain ⟨v3, M2, eM2, h⟩ := b2d h
  have w := zX16_is fu q1 (1 : Int32) M hB rq1 eM2
  have hS := hS.tr w.1
  have hB := w.2
  by_cases hc : v3 = 0
  · have h := (if_pos hc).symm.trans h
    have z := zX16_arrived_L246 fu   a0 a1 M2 hB ra0 h
    exact ⟨hS.tr z.1, z.2⟩
  · have h := (if_neg hc).symm.trans h
    obtain ⟨M4, eM4, h⟩ := bd h
    have w := z_pZ hB eM4 (by decide)
    have hS := hS.tr w.1
    have hB := w.2
    have z := zX16_arrived_L246 fu   a0 a1 M4 hB ra0 h
    exact ⟨hS.tr z.1, z.2⟩
theorem zX16_arrived_L176 (fu : Nat)   (a0 : Nat) (a1 : Option Nat) (a2 : Int32) (a3 : Int32)  (M : Mm) {out : Mm} (hB : RW M) (ra0 : a0 = 323) (h : fX16_arrived_L176 fu  a0 a1 a2 a3 M = some out) : Zq M out ∧ RW out := by
  unfold fX16_arrived_L176 at h
  have hS : Zq M M := Zq.rf
  obtain ⟨q1, eq1, h⟩ := bd h
  have rq1 := z_rc (z_some ra0) eq1
  obtain ⟨v3, M2, eM2, h⟩ := b2d h
  have w := zX16_is fu q1 (1 : Int32) M hB rq1 eM2
  have hS := hS.tr w.1
  have hB := w.2
  by_cases hc : v3 = 0
  · have h := (if_pos hc).symm.trans h
    have z := zX16_arrived_L233 fu   a0 a1 M2 hB ra0 h
    exact ⟨hS.tr z.1, z.2⟩
  · have h := (if_neg hc).symm.trans h
    obtain ⟨v4, ev4, h⟩ := bd h
    by_cases hc : v4 = 0
    · have h := (if_pos hc).symm.trans h
      obtain ⟨v5, ev5, h⟩ := bd h
      obtain ⟨v6, ev6, h⟩ := bd h
      obtain ⟨v8, M7, eM7, h⟩ := b2d h
      have w := zX16_before fu  (v5 + v6) a3 M2 hB  eM7
      have hS := hS.tr w.1
      have hB := w.2
      by_cases hc : v8 = 0
      · have h := (if_pos hc).symm.trans h
        obtain ⟨v10, M9, eM9, h⟩ := b2d h
        have w := zX16_before fu  (v5 + v6) (a3 + a2) M7 hB  eM9
        have hS := hS.tr w.1
        have hB := w.2
        by_cases hc : v10 = 0
        · have h := (if_pos hc).symm.trans h
          have z := zX16_arrived_L233 fu   a0 a1 M9 hB ra0 h
          exact ⟨hS.tr z.1, z.2⟩
        · have h := (if_neg hc).symm.trans h
          obtain ⟨M11, eM11, h⟩ := bd h
          have w := z_pZ hB eM11 (by decide)
          have hS := hS.tr w.1
          have hB := w.2
          obtain ⟨M12, eM12, h⟩ := bd h
          have w := z_pF hB eM12 (by decide)
          have hS := hS.tr w.1
          have hB := w.2
          have z := zX16_arrived_L233 fu   a0 a1 M12 hB ra0 h
          exact ⟨hS.tr z.1, z.2⟩
      · have h := (if_neg hc).symm.trans h
        have z := zX16_arrived_L233 fu   a0 a1 M7 hB ra0 h
        exact ⟨hS.tr z.1, z.2⟩
    · have h := (if_neg hc).symm.trans h
      have z := zX16_arrived_L233 fu   a0 a1 M2 hB ra0 h
      exact ⟨hS.tr z.1, z.2⟩
theorem zX16_arrived_L131 (fu : Nat) {out : Mm}   : ∀ (n : Nat) (a0 : Nat) (a1 : Option Nat) (a2 : Int32) (a3 : Int32)  (M : Mm), RW M → a0 = 323 → fX16_arrived_L131 fu  n a0 a1 a2 a3 M = some out → Zq M out ∧ RW out := by
  intro n
  induction n with
  | zero =>
    intro a0 a1 a2 a3 M hB ra0 h
    have h : (none : Option (Mm)) = some out := h
    cases h
  | succ n ih =>
    intro a0 a1 a2 a3 M hB ra0 h
    rw [fX16_arrived_L131] at h
    have hS : Zq M M := Zq.rf
    obtain ⟨v1, ev1, h⟩ := bd h
    obtain ⟨v2, ev2, h⟩ := bd h
    by_cases hc : (4096 : Int32) ≤ (v1 - v2)
    · have h := (if_pos hc).symm.trans h
      have z := zX16_arrived_L176 fu   a0 a1 a2 a3 M hB ra0 h
      exact ⟨hS.tr z.1, z.2⟩
    · have h := (if_neg hc).symm.trans h
      obtain ⟨v3, ev3, h⟩ := bd h
      obtain ⟨v4, ev4, h⟩ := bd h
      obtain ⟨v5, ev5, h⟩ := bd h
      obtain ⟨v6, ev6, h⟩ := bd h
      by_cases hc : v6 = 0
      · have h := (if_pos hc).symm.trans h
        have z := zX16_arrived_L176 fu   a0 a1 a2 a3 M hB ra0 h
        exact ⟨hS.tr z.1, z.2⟩
      · have h := (if_neg hc).symm.trans h
        obtain ⟨v7, ev7, h⟩ := bd h
        obtain ⟨M8, eM8, h⟩ := bd h
        have w := z_pF hB eM8 (by decide)
        have hS := hS.tr w.1
        have hB := w.2
        have z := ih a0 a1 a2 a3 M8 hB ra0 h
        exact ⟨hS.tr z.1, z.2⟩
theorem zX16_arrived_L125 (fu : Nat) {out : Mm} (k41 : Nat → Option Nat → Int32 → Int32 → Int32 → Mm → Option (Mm)) (hk41 : ∀ (b0 : Nat) (b1 : Option Nat) (b2 : Int32) (b3 : Int32) (b4 : Int32)  (M : Mm), RW M → b0 = 323 → k41 b0 b1 b2 b3 b4 M = some out → Zq M out ∧ RW out) (a0 : Nat) (a1 : Option Nat) (a2 : Int32) (a3 : Int32) (a4 : Int32)  (M : Mm) (hB : RW M) (ra0 : a0 = 323) (h : fX16_arrived_L125 fu k41 a0 a1 a2 a3 a4 M = some out) : Zq M out ∧ RW out := by
  unfold fX16_arrived_L125 at h
  have hS : Zq M M := Zq.rf
  have z := hk41 a0 a1 a2 a3 (a4 + (1 : Int32)) M hB ra0 h
  exact ⟨hS.tr z.1, z.2⟩
theorem zX16_arrived_L41 (fu : Nat) {out : Mm}   : ∀ (n : Nat) (a0 : Nat) (a1 : Option Nat) (a2 : Int32) (a3 : Int32) (a4 : Int32)  (M : Mm), RW M → a0 = 323 → fX16_arrived_L41 fu  n a0 a1 a2 a3 a4 M = some out → Zq M out ∧ RW out := by
  intro n
  induction n with
  | zero =>
    intro a0 a1 a2 a3 a4 M hB ra0 h
    have h : (none : Option (Mm)) = some out := h
    cases h
  | succ n ih =>
    intro a0 a1 a2 a3 a4 M hB ra0 h
    rw [fX16_arrived_L41] at h
    have hS : Zq M M := Zq.rf
    obtain ⟨v1, ev1, h⟩ := bd h
    by_cases hc : v1 ≤ a4
    · have h := (if_pos hc).symm.trans h
      have z := zX16_arrived_L131 fu   fu a0 a1 a2 a3 M hB ra0 h
      exact ⟨hS.tr z.1, z.2⟩
    · have h := (if_neg hc).symm.trans h
      obtain ⟨v2, ev2, h⟩ := bd h
      obtain ⟨v4, M3, eM3, h⟩ := b2d h
      have w := zX16_before fu  (v2 + a4) a3 M hB  eM3
      have hS := hS.tr w.1
      have hB := w.2
      by_cases hc : v4 = 0
      · have h := (if_pos hc).symm.trans h
        obtain ⟨v6, M5, eM5, h⟩ := b2d h
        have w := zX16_before fu  (v2 + a4) (a3 + a2) M3 hB  eM5
        have hS := hS.tr w.1
        have hB := w.2
        by_cases hc : v6 = 0
        · have h := (if_pos hc).symm.trans h
          have z := zX16_arrived_L125 fu (fun b0 b1 b2 b3 b4 M => fX16_arrived_L41 fu  n b0 b1 b2 b3 b4 M) ih a0 a1 a2 a3 a4 M5 hB ra0 h
          exact ⟨hS.tr z.1, z.2⟩
        · have h := (if_neg hc).symm.trans h
          obtain ⟨v7, ev7, h⟩ := bd h
          obtain ⟨v8, ev8, h⟩ := bd h
          obtain ⟨v9, ev9, h⟩ := bd h
          by_cases hc : v9 = 0
          · have h := (if_pos hc).symm.trans h
            obtain ⟨v10, ev10, h⟩ := bd h
            obtain ⟨M11, eM11, h⟩ := bd h
            have w := z_pA hB (by decide) eM11
            have hS := hS.tr w.1
            have hB := w.2
            obtain ⟨v12, ev12, h⟩ := bd h
            obtain ⟨v13, ev13, h⟩ := bd h
            obtain ⟨v14, ev14, h⟩ := bd h
            obtain ⟨v15, ev15, h⟩ := bd h
            obtain ⟨M16, eM16, h⟩ := bd h
            have w := z_pA hB (by decide) eM16
            have hS := hS.tr w.1
            have hB := w.2
            have z := zX16_arrived_L125 fu (fun b0 b1 b2 b3 b4 M => fX16_arrived_L41 fu  n b0 b1 b2 b3 b4 M) ih a0 a1 a2 a3 a4 M16 hB ra0 h
            exact ⟨hS.tr z.1, z.2⟩
          · have h := (if_neg hc).symm.trans h
            have z := zX16_arrived_L125 fu (fun b0 b1 b2 b3 b4 M => fX16_arrived_L41 fu  n b0 b1 b2 b3 b4 M) ih a0 a1 a2 a3 a4 M5 hB ra0 h
            exact ⟨hS.tr z.1, z.2⟩
      · have h := (if_neg hc).symm.trans h
        have z := zX16_arrived_L125 fu (fun b0 b1 b2 b3 b4 M => fX16_arrived_L41 fu  n b0 b1 b2 b3 b4 M) ih a0 a1 a2 a3 a4 M3 hB ra0 h
        exact ⟨hS.tr z.1, z.2⟩
theorem zX16_arrived_L38 (fu : Nat)   (a0 : Nat) (a1 : Option Nat) (a2 : Int32) (a3 : Int32)  (M : Mm) {out : Mm} (hB : RW M) (ra0 : a0 = 323) (h : fX16_arrived_L38 fu  a0 a1 a2 a3 M = some out) : Zq M out ∧ RW out := by
  unfold fX16_arrived_L38 at h
  have hS : Zq M M := Zq.rf
  have z := zX16_arrived_L41 fu   fu a0 a1 a2 a3 (0 : Int32) M hB ra0 h
  exact ⟨hS.tr z.1, z.2⟩
theorem zX16_arrived (fu : Nat)   (a0 : Nat) (a1 : Option Nat)  (M : Mm) {out : Mm} (hB : RW M) (ra0 : a0 = 323) (h : fX16_arrived fu  a0 a1 M = some out) : Zq M out ∧ RW out := by
  unfold fX16_arrived at h
  have hS : Zq M M := Zq.rf
  obtain ⟨v2, M1, eM1, h⟩ := b2d h
  have w := zX16_takesData fu  a1 M hB  eM1
  have hS := hS.tr w.1
  have hB := w.2
  by_cases hc : v2 = 0
  · have h := (if_pos hc).symm.trans h
    obtain rfl := Option.some.inj h
    exact ⟨hS, hB⟩
  · have h := (if_neg hc).symm.trans h
    obtain ⟨q3, eq3, h⟩ := bd h
    obtain ⟨v5, M4, eM4, h⟩ := b2d h
    have w := zX12_open fu q3  M1 hB  eM4
    have hS := hS.tr w.1
    have hB := w.2
    obtain ⟨v6, ev6, h⟩ := bd h
    obtain ⟨v7, ev7, h⟩ := bd h
    by_cases hc : v7 ≤ 0
    · have h := (if_pos hc).symm.trans h
      have z := zX16_arrived_L38 fu   a0 a1 v5 v6 M4 hB ra0 h
      exact ⟨hS.tr z.1, z.2⟩
    · have h := (if_neg hc).symm.trans h
      obtain ⟨M8, eM8, h⟩ := bd h
      have w := z_pZ hB eM8 (by decide)
      have hS := hS.tr w.1
      have hB := w.2
      obtain ⟨v9, ev9, h⟩ := bd h
      obtain ⟨M10, eM10, h⟩ := bd h
      have w := z_pF hB eM10 (by decide)
      have hS := hS.tr w.1
      have hB := w.2
      have z := zX16_arrived_L38 fu   a0 a1 v5 v6 M10 hB ra0 h
      exact ⟨hS.tr z.1, z.2⟩
theorem zX16_take_L71 (fu : Nat) {out : Mm} (k2 : Option Nat → Int32 → Int32 → Mm → Option (Mm)) (hk2 : ∀ (b1 : Option Nat) (b2 : Int32) (b3 : Int32)  (M : Mm), RW M → k2 b1 b2 b3 M = some out → Zq M out ∧ RW out) (a1 : Option Nat) (a2 : Int32) (a3 : Int32)  (M : Mm) (hB : RW M)  (h : fX16_take_L71 fu k2 a1 a2 a3 M = some out) : Zq M out ∧ RW out := by
  unfold fX16_take_L71 at h
  have hS : Zq M M := Zq.rf
  have z := hk2 a1 a2 (a3 + (1 : Int32)) M hB  h
  exact ⟨hS.tr z.1, z.2⟩
theorem zX16_take_L51 (fu : Nat) {out : Mm} (k2 : Option Nat → Int32 → Int32 → Mm → Option (Mm)) (hk2 : ∀ (b1 : Option Nat) (b2 : Int32) (b3 : Int32)  (M : Mm), RW M → k2 b1 b2 b3 M = some out → Zq M out ∧ RW out) (a1 : Option Nat) (a2 : Int32) (a3 : Int32) (a4 : Int32) (s0 : Option Nat) (s1 : Int32) (s2 : Int32) (M : Mm) (hB : RW M)  (h : fX16_take_L51 fu k2 a1 a2 a3 a4 s0 s1 s2 M = some out) : Zq M out ∧ RW out := by
  unfold fX16_take_L51 at h
  have hS : Zq M M := Zq.rf
  obtain ⟨M1, eM1, h⟩ := bd h
  have w := z_pA hB (by decide) eM1
  have hS := hS.tr w.1
  have hB := w.2
  by_cases hc : a4 = 0
  · have h := (if_pos hc).symm.trans h
    have z := zX16_take_L71 fu k2 hk2 a1 a2 a3 M1 hB  h
    exact ⟨hS.tr z.1, z.2⟩
  · have h := (if_neg hc).symm.trans h
    obtain ⟨v2, ev2, h⟩ := bd h
    obtain ⟨v3, ev3, h⟩ := bd h
    obtain ⟨v4, ev4, h⟩ := bd h
    obtain ⟨M5, eM5, h⟩ := bd h
    have w := z_pA hB (by decide) eM5
    have hS := hS.tr w.1
    have hB := w.2
    have z := zX16_take_L71 fu k2 hk2 a1 a2 a3 M5 hB  h
    exact ⟨hS.tr z.1, z.2⟩
theorem zX16_take_L50 (fu : Nat) {out : Mm} (k2 : Option Nat → Int32 → Int32 → Mm → Option (Mm)) (hk2 : ∀ (b1 : Option Nat) (b2 : Int32) (b3 : Int32)  (M : Mm), RW M → k2 b1 b2 b3 M = some out → Zq M out ∧ RW out) (a1 : Option Nat) (a2 : Int32) (a3 : Int32) (a4 : Int32) (s0 : Option Nat) (s1 : Int32) (M : Mm) (hB : RW M)  (h : fX16_take_L50 fu k2 a1 a2 a3 a4 s0 s1 M = some out) : Zq M out ∧ RW out := by
  unfold fX16_take_L50 at h
  have hS : Zq M M := Zq.rf
  have z := zX16_take_L51 fu k2 hk2 a1 a2 a3 a4 s0 s1 (0 : Int32) M hB  h
  exact ⟨hS.tr z.1, z.2⟩
theorem zX16_take_L23 (fu : Nat) {out : Mm} (k2 : Option Nat → Int32 → Int32 → Mm → Option (Mm)) (hk2 : ∀ (b1 : Option Nat) (b2 : Int32) (b3 : Int32)  (M : Mm), RW M → k2 b1 b2 b3 M = some out → Zq M out ∧ RW out) (a1 : Option Nat) (a2 : Int32) (a3 : Int32) (s0 : Int32) (M : Mm) (hB : RW M)  (h : fX16_take_L23 fu k2 a1 a2 a3 s0 M = some out) : Zq M out ∧ RW out := by
  unfold fX16_take_L23 at h
  have hS : Zq M M := Zq.rf
  obtain ⟨v1, ev1, h⟩ := bd h
  by_cases hc : s0 = 0
  · have h := (if_pos hc).symm.trans h
    have z := zX16_take_L50 fu k2 hk2 a1 a2 a3 s0 v1 a3 M hB  h
    exact ⟨hS.tr z.1, z.2⟩
  · have h := (if_neg hc).symm.trans h
    obtain ⟨v2, ev2, h⟩ := bd h
    obtain ⟨v3, ev3, h⟩ := bd h
    by_cases hc : v3 = 0
    · have h := (if_pos hc).symm.trans h
      have z := zX16_take_L50 fu k2 hk2 a1 a2 a3 s0 v1 a3 M hB  h
      exact ⟨hS.tr z.1, z.2⟩
    · have h := (if_neg hc).symm.trans h
      have z := zX16_take_L51 fu k2 hk2 a1 a2 a3 s0 v1 a3 (1 : Int32) M hB  h
      exact ⟨hS.tr z.1, z.2⟩
theorem zX16_take_L2 (fu : Nat) {out : Mm}   : ∀ (n : Nat) (a1 : Option Nat) (a2 : Int32) (a3 : Int32)  (M : Mm), RW M → fX16_take_L2 fu  n a1 a2 a3 M = some out → Zq M out ∧ RW out := by
  intro n
  induction n with
  | zero =>
    intro a1 a2 a3 M hB  h
    have h : (none : Option (Mm)) = some out := h
    cases h
  | succ n ih =>
    intro a1 a2 a3 M hB  h
    rw [fX16_take_L2] at h
    have hS : Zq M M := Zq.rf
    by_cases hc : (4096 : Int32) ≤ a3
    · have h := (if_pos hc).symm.trans h
      obtain ⟨v1, ev1, h⟩ := bd h
      obtain ⟨M2, eM2, h⟩ := bd h
      have w := z_pF hB eM2 (by decide)
      have hS := hS.tr w.1
      have hB := w.2
      obtain ⟨q3, eq3, h⟩ := bd h
      obtain ⟨v5, M4, eM4, h⟩ := b2d h
      have w := zX12_open fu q3  M2 hB  eM4
      have hS := hS.tr w.1
      have hB := w.2
      obtain ⟨v6, ev6, h⟩ := bd h
      by_cases hc : (v5 - v6) < (2048 : Int32)
      · have h := (if_pos hc).symm.trans h
        obtain rfl := Option.some.inj h
        exact ⟨hS, hB⟩
      · have h := (if_neg hc).symm.trans h
        obtain ⟨M7, eM7, h⟩ := bd h
        have w := z_pZ hB eM7 (by decide)
        have hS := hS.tr w.1
        have hB := w.2
        obtain rfl := Option.some.inj h
        exact ⟨hS, hB⟩
    · have h := (if_neg hc).symm.trans h
      by_cases hc : (4096 : Int32) ≤ (a3 + a2)
      · have h := (if_pos hc).symm.trans h
        have z := zX16_take_L23 fu (fun b1 b2 b3 M => fX16_take_L2 fu  n b1 b2 b3 M) ih a1 a2 a3 (0 : Int32) M hB  h
        exact ⟨hS.tr z.1, z.2⟩
      · have h := (if_neg hc).symm.trans h
        have z := zX16_take_L23 fu (fun b1 b2 b3 M => fX16_take_L2 fu  n b1 b2 b3 M) ih a1 a2 a3 (1 : Int32) M hB  h
        exact ⟨hS.tr z.1, z.2⟩
theorem zX16_take (fu : Nat)   (a0 : Nat) (a1 : Option Nat) (a2 : Int32)  (M : Mm) {out : Mm} (hB : RW M) (ra0 : a0 = 323) (h : fX16_take fu  a0 a1 a2 M = some out) : Zq M out ∧ RW out := by
  unfold fX16_take at h
  have hS : Zq M M := Zq.rf
  have z := zX16_take_L2 fu   fu a1 a2 (0 : Int32) M hB  h
  exact ⟨hS.tr z.1, z.2⟩
theorem zX16_byteAt (fu : Nat)   (a0 : Option Nat) (a1 : Int32)  (M : Mm) {out : Int32 × Mm} (hB : RW M)  (h : fX16_byteAt fu  a0 a1 M = some out) : Zq M out.2 ∧ RW out.2 := by
  unfold fX16_byteAt at h
  have hS : Zq M M := Zq.rf
  obtain ⟨q1, eq1, h⟩ := bd h
  obtain ⟨v3, M2, eM2, h⟩ := b2d h
  have w := zX12_held fu q1  M hB  eM2
  have hS := hS.tr w.1
  have hB := w.2
  by_cases hc : v3 ≤ a1
  · have h := (if_pos hc).symm.trans h
    obtain rfl := Option.some.inj h
    exact ⟨hS, hB⟩
  · have h := (if_neg hc).symm.trans h
    obtain ⟨v4, ev4, h⟩ := bd h
    obtain ⟨v5, ev5, h⟩ := bd h
    obtain rfl := Option.some.inj h
    exact ⟨hS, hB⟩
theorem zX16_headBytes_L73 (fu : Nat) {out : Int32 × Mm} (k10 : Option Nat → Int32 → Int32 → Int32 → Mm → Option (Int32 × Mm)) (hk10 : ∀ (b1 : Option Nat) (b2 : Int32) (b3 : Int32) (b4 : Int32)  (M : Mm), RW M → k10 b1 b2 b3 b4 M = some out → Zq M out.2 ∧ RW out.2) (a1 : Option Nat) (a2 : Int32) (a3 : Int32) (a4 : Int32)  (M : Mm) (hB : RW M)  (h : fX16_headBytes_L73 fu k10 a1 a2 a3 a4 M = some out) : Zq M out.2 ∧ RW out.2 := by
  unfold fX16_headBytes_L73 at h
  have hS : Zq M M := Zq.rf
  have z := hk10 a1 a2 a3 (a4 + (1 : Int32)) M hB  h
  exact ⟨hS.tr z.1, z.2⟩
theorem zX16_headBytes_L56 (fu : Nat) {out : Int32 × Mm} (k10 : Option Nat → Int32 → Int32 → Int32 → Mm → Option (Int32 × Mm)) (hk10 : ∀ (b1 : Option Nat) (b2 : Int32) (b3 : Int32) (b4 : Int32)  (M : Mm), RW M → k10 b1 b2 b3 b4 M = some out → Zq M out.2 ∧ RW out.2) (a1 : Option Nat) (a3 : Int32) (a4 : Int32) (s0 : Int32) (M : Mm) (hB : RW M)  (h : fX16_headBytes_L56 fu k10 a1 a3 a4 s0 M = some out) : Zq M out.2 ∧ RW out.2 := by
  unfold fX16_headBytes_L56 at h
  have hS : Zq M M := Zq.rf
  by_cases hc : s0 = 0
  · have h := (if_pos hc).symm.trans h
    have z := zX16_headBytes_L73 fu k10 hk10 a1 (a4 + (1 : Int32)) a3 a4 M hB  h
    exact ⟨hS.tr z.1, z.2⟩
  · have h := (if_neg hc).symm.trans h
    obtain rfl := Option.some.inj h
    exact ⟨hS, hB⟩
theorem zX16_headBytes_L51 (fu : Nat) {out : Int32 × Mm} (k10 : Option Nat → Int32 → Int32 → Int32 → Mm → Option (Int32 × Mm)) (hk10 : ∀ (b1 : Option Nat) (b2 : Int32) (b3 : Int32) (b4 : Int32)  (M : Mm), RW M → k10 b1 b2 b3 b4 M = some out → Zq M out.2 ∧ RW out.2) (a1 : Option Nat) (a3 : Int32) (a4 : Int32)  (M : Mm) (hB : RW M)  (h : fX16_headBytes_L51 fu k10 a1 a3 a4 M = some out) : Zq M out.2 ∧ RW out.2 := by
  unfold fX16_headBytes_L51 at h
  have hS : Zq M M := Zq.rf
  have z := zX16_headBytes_L56 fu k10 hk10 a1 a3 a4 (1 : Int32) M hB  h
  exact ⟨hS.tr z.1, z.2⟩
theorem zX16_headBytes_L55 (fu : Nat) {out : Int32 × Mm} (k10 : Option Nat → Int32 → Int32 → Int32 → Mm → Option (Int32 × Mm)) (hk10 : ∀ (b1 : Option Nat) (b2 : Int32) (b3 : Int32) (b4 : Int32)  (M : Mm), RW M → k10 b1 b2 b3 b4 M = some out → Zq M out.2 ∧ RW out.2) (a1 : Option Nat) (a3 : Int32) (a4 : Int32)  (M : Mm) (hB : RW M)  (h : fX16_headBytes_L55 fu k10 a1 a3 a4 M = some out) : Zq M out.2 ∧ RW out.2 := by
  unfold fX16_headBytes_L55 at h
  have hS : Zq M M := Zq.rf
  have z := zX16_headBytes_L56 fu k10 hk10 a1 a3 a4 (0 : Int32) M hB  h
  exact ⟨hS.tr z.1, z.2⟩
theorem zX16_headBytes_L10 (fu : Nat) {out : Int32 × Mm}   : ∀ (n : Nat) (a1 : Option Nat) (a2 : Int32) (a3 : Int32) (a4 : Int32)  (M : Mm), RW M → fX16_headBytes_L10 fu  n a1 a2 a3 a4 M = some out → Zq M out.2 ∧ RW out.2 := by
  intro n
  induction n with
  | zero =>
    intro a1 a2 a3 a4 M hB  h
    have h : (none : Option (Int32 × Mm)) = some out := h
    cases h
  | succ n ih =>
    intro a1 a2 a3 a4 M hB  h
    rw [fX16_headBytes_L10] at h
    have hS : Zq M M := Zq.rf
    by_cases hc : a3 ≤ a4
    · have h := (if_pos hc).symm.trans h
      obtain rfl := Option.some.inj h
      exact ⟨hS, hB⟩
    · have h := (if_neg hc).symm.trans h
      obtain ⟨v2, M1, eM1, h⟩ := b2d h
      have w := zX16_byteAt fu  a1 a4 M hB  eM1
      have hS := hS.tr w.1
      have hB := w.2
      by_cases hc : v2 = (10 : Int32)
      · have h := (if_pos hc).symm.trans h
        by_cases hc : a4 = a2
        · have h := (if_pos hc).symm.trans h
          have z := zX16_headBytes_L51 fu (fun b1 b2 b3 b4 M => fX16_headBytes_L10 fu  n b1 b2 b3 b4 M) ih a1 a3 a4 M1 hB  h
          exact ⟨hS.tr z.1, z.2⟩
        · have h := (if_neg hc).symm.trans h
          by_cases hc : a4 = (a2 + (1 : Int32))
          · have h := (if_pos hc).symm.trans h
            obtain ⟨v4, M3, eM3, h⟩ := b2d h
            have w := zX16_byteAt fu  a1 a2 M1 hB  eM3
            have hS := hS.tr w.1
            have hB := w.2
            by_cases hc : v4 = (13 : Int32)
            · have h := (if_pos hc).symm.trans h
              have z := zX16_headBytes_L51 fu (fun b1 b2 b3 b4 M => fX16_headBytes_L10 fu  n b1 b2 b3 b4 M) ih a1 a3 a4 M3 hB  h
              exact ⟨hS.tr z.1, z.2⟩
            · have h := (if_neg hc).symm.trans h
              have z := zX16_headBytes_L55 fu (fun b1 b2 b3 b4 M => fX16_headBytes_L10 fu  n b1 b2 b3 b4 M) ih a1 a3 a4 M3 hB  h
              exact ⟨hS.tr z.1, z.2⟩
          · have h := (if_neg hc).symm.trans h
            have z := zX16_headBytes_L55 fu (fun b1 b2 b3 b4 M => fX16_headBytes_L10 fu  n b1 b2 b3 b4 M) ih a1 a3 a4 M1 hB  h
            exact ⟨hS.tr z.1, z.2⟩
      · have h := (if_neg hc).symm.trans h
        have z := zX16_headBytes_L73 fu (fun b1 b2 b3 b4 M => fX16_headBytes_L10 fu  n b1 b2 b3 b4 M) ih a1 a2 a3 a4 M1 hB  h
        exact ⟨hS.tr z.1, z.2⟩
theorem zX16_headBytes (fu : Nat)   (a0 : Nat) (a1 : Option Nat)  (M : Mm) {out : Int32 × Mm} (hB : RW M) (ra0 : a0 = 323) (h : fX16_headBytes fu  a0 a1 M = some out) : Zq M out.2 ∧ RW out.2 := by
  unfold fX16_headBytes at h
  have hS : Zq M M := Zq.rf
  obtain ⟨q1, eq1, h⟩ := bd h
  obtain ⟨v3, M2, eM2, h⟩ := b2d h
  have w := zX12_held fu q1  M hB  eM2
  have hS := hS.tr w.1
  have hB := w.2
  have z := zX16_headBytes_L10 fu   fu a1 (0 : Int32) v3 (0 : Int32) M2 hB  h
  exact ⟨hS.tr z.1, z.2⟩
theorem zX16_lineEnd_L2 (fu : Nat) {out : Int32 × Mm}   : ∀ (n : Nat) (a0 : Nat) (a2 : Int32)  (M : Mm), RW M → a0 = 323 → fX16_lineEnd_L2 fu  n a0 a2 M = some out → Zq M out.2 ∧ RW out.2 := by
  intro n
  induction n with
  | zero =>
    intro a0 a2 M hB ra0 h
    have h : (none : Option (Int32 × Mm)) = some out := h
    cases h
  | succ n ih =>
    intro a0 a2 M hB ra0 h
    rw [fX16_lineEnd_L2] at h
    have hS : Zq M M := Zq.rf
    obtain ⟨v1, ev1, h⟩ := bd h
    obtain ⟨v2, ev2, h⟩ := bd h
    by_cases hc : v2 = (10 : Int32)
    · have h := (if_pos hc).symm.trans h
      obtain rfl := Option.some.inj h
      exact ⟨hS, hB⟩
    · have h := (if_neg hc).symm.trans h
      have z := ih a0 (a2 + (1 : Int32)) M hB ra0 h
      exact ⟨hS.tr z.1, z.2⟩
theorem zX16_lineEnd (fu : Nat)   (a0 : Nat) (a1 : Int32)  (M : Mm) {out : Int32 × Mm} (hB : RW M) (ra0 : a0 = 323) (h : fX16_lineEnd fu  a0 a1 M = some out) : Zq M out.2 ∧ RW out.2 := by
  unfold fX16_lineEnd at h
  have hS : Zq M M := Zq.rf
  have z := zX16_lineEnd_L2 fu   fu a0 a1 M hB ra0 h
  exact ⟨hS.tr z.1, z.2⟩
theorem zX16_shown (fu : Nat)   (a0 : Nat) (a1 : Int32) (a2 : Int32)  (M : Mm) {out : Int32 × Mm} (hB : RW M) (ra0 : a0 = 323) (h : fX16_shown fu  a0 a1 a2 M = some out) : Zq M out.2 ∧ RW out.2 := by
  unfold fX16_shown at h
  have hS : Zq M M := Zq.rf
  by_cases hc : a2 ≤ a1
  · have h := (if_pos hc).symm.trans h
    obtain rfl := Option.some.inj h
    exact ⟨hS, hB⟩
  · have h := (if_neg hc).symm.trans h
    obtain ⟨v1, ev1, h⟩ := bd h
    obtain ⟨v2, ev2, h⟩ := bd h
    by_cases hc : v2 = (13 : Int32)
    · have h := (if_pos hc).symm.trans h
      obtain rfl := Option.some.inj h
      exact ⟨hS, hB⟩
    · have h := (if_neg hc).symm.trans h
      obtain rfl := Option.some.inj h
      exact ⟨hS, hB⟩
theorem zX16_headAt (fu : Nat)   (a0 : Nat) (a1 : Int32)  (M : Mm) {out : Int32 × Mm} (hB : RW M) (ra0 : a0 = 323) (h : fX16_headAt fu  a0 a1 M = some out) : Zq M out.2 ∧ RW out.2 := by
  unfold fX16_headAt at h
  have hS : Zq M M := Zq.rf
  obtain ⟨v1, ev1, h⟩ := bd h
  obtain ⟨v2, ev2, h⟩ := bd h
  obtain rfl := Option.some.inj h
  exact ⟨hS, hB⟩
theorem zX16_says_L15 (fu : Nat) {out : Int32 × Mm}   : ∀ (n : Nat) (a0 : Nat) (a1 : Int32) (a2 : Int32) (a3 : Option Nat) (a4 : Int32)  (M : Mm), RW M → a0 = 323 → fX16_says_L15 fu  n a0 a1 a2 a3 a4 M = some out → Zq M out.2 ∧ RW out.2 := by
  intro n
  induction n with
  | zero =>
    intro a0 a1 a2 a3 a4 M hB ra0 h
    have h : (none : Option (Int32 × Mm)) = some out := h
    cases h
  | succ n ih =>
    intro a0 a1 a2 a3 a4 M hB ra0 h
    rw [fX16_says_L15] at h
    have hS : Zq M M := Zq.rf
    by_cases hc : a2 ≤ a4
    · have h := (if_pos hc).symm.trans h
      obtain ⟨hz, rfl⟩ := rN_some h
      exact ⟨hS, hB⟩
    · have h := (if_neg hc).symm.trans h
      obtain ⟨q1, eq1, h⟩ := bd h
      have rq1 := z_rc (z_some ra0) eq1
      obtain ⟨v3, M2, eM2, h⟩ := b2d h
      have w := zX16_headAt fu q1 a4 M hB rq1 eM2
      have hS := hS.tr w.1
      have hB := w.2
      obtain ⟨q4, eq4, h⟩ := bd h
      obtain ⟨v6, M5, eM5, h⟩ := b2d h
      have w := zJ0_charAt_5068e fu q4 (a4 - a1) M2 hB  eM5
      have hS := hS.tr w.1
      have hB := w.2
      by_cases hc : v3 = v6
      · have h := (if_pos hc).symm.trans h
        have z := ih a0 a1 a2 a3 (a4 + (1 : Int32)) M5 hB ra0 h
        exact ⟨hS.tr z.1, z.2⟩
      · have h := (if_neg hc).symm.trans h
        obtain ⟨hz, rfl⟩ := rN_some h
        exact ⟨hS, hB⟩
theorem zX16_says (fu : Nat)   (a0 : Nat) (a1 : Int32) (a2 : Int32) (a3 : Option Nat)  (M : Mm) {out : Int32 × Mm} (hB : RW M) (ra0 : a0 = 323) (h : fX16_says fu  a0 a1 a2 a3 M = some out) : Zq M out.2 ∧ RW out.2 := by
  unfold fX16_says at h
  have hS : Zq M M := Zq.rf
  obtain ⟨q1, eq1, h⟩ := bd h
  obtain ⟨v3, M2, eM2, h⟩ := b2d h
  have w := zJ0_length_8abf5 fu q1  M hB  eM2
  have hS := hS.tr w.1
  have hB := w.2
  by_cases hc : (a2 - a1) = v3
  · have h := (if_pos hc).symm.trans h
    have z := zX16_says_L15 fu   fu a0 a1 a2 a3 a1 M2 hB ra0 h
    exact ⟨hS.tr z.1, z.2⟩
  · have h := (if_neg hc).symm.trans h
    obtain ⟨hz, rfl⟩ := rN_some h
    exact ⟨hS, hB⟩
theorem zX16_requestLine_L283 (fu : Nat)   (a0 : Nat) (a3 : Int32) (a4 : Int32) (s0 : Option Nat) (s1 : Int32) (M : Mm) {out : Int32 × Mm} (hB : RW M) (ra0 : a0 = 323) (is0 : s0 = some 323) (h : fX16_requestLine_L283 fu  a0 a3 a4 s0 s1 M = some out) : Zq M out.2 ∧ RW out.2 := by
  unfold fX16_requestLine_L283 at h
  have hS : Zq M M := Zq.rf
  obtain ⟨M1, eM1, h⟩ := bd h
  have w := z_pZ hB eM1 (by decide)
  have hS := hS.tr w.1
  have hB := w.2
  obtain ⟨M2, eM2, h⟩ := bd h
  have w := z_pF hB eM2 (by decide)
  have hS := hS.tr w.1
  have hB := w.2
  obtain ⟨M3, eM3, h⟩ := bd h
  have w := z_pF hB eM3 (by decide)
  have hS := hS.tr w.1
  have hB := w.2
  obtain ⟨hz, rfl⟩ := rN_some h
  exact ⟨hS, hB⟩
theorem zX16_requestLine_L282 (fu : Nat)   (a0 : Nat) (a3 : Int32) (a4 : Int32) (s0 : Option Nat) (M : Mm) {out : Int32 × Mm} (hB : RW M) (ra0 : a0 = 323) (is0 : s0 = some 323) (h : fX16_requestLine_L282 fu  a0 a3 a4 s0 M = some out) : Zq M out.2 ∧ RW out.2 := by
  unfold fX16_requestLine_L282 at h
  have hS : Zq M M := Zq.rf
  have z := zX16_requestLine_L283 fu   a0 a3 a4 s0 (0 : Int32) M hB ra0 is0 h
  exact ⟨hS.tr z.1, z.2⟩
theorem zX16_requestLine_L242 (fu : Nat)   (a0 : Nat) (a1 : Int32) (a3 : Int32) (a4 : Int32) (s0 : Option Nat) (s1 : Int32) (M : Mm) {out : Int32 × Mm} (hB : RW M) (ra0 : a0 = 323) (is0 : s0 = some 323) (h : fX16_requestLine_L242 fu  a0 a1 a3 a4 s0 s1 M = some out) : Zq M out.2 ∧ RW out.2 := by
  unfold fX16_requestLine_L242 at h
  have hS : Zq M M := Zq.rf
  obtain ⟨M1, eM1, h⟩ := bd h
  have w := z_pZ hB eM1 (by decide)
  have hS := hS.tr w.1
  have hB := w.2
  obtain ⟨q2, eq2, h⟩ := bd h
  have rq2 := z_rc (z_some ra0) eq2
  obtain ⟨v4, M3, eM3, h⟩ := b2d h
  have w := zX16_says fu q2 a1 a3 (some 3) M1 hB rq2 eM3
  have hS := hS.tr w.1
  have hB := w.2
  obtain ⟨M5, eM5, h⟩ := bd h
  have w := z_pZ hB eM5 (by decide)
  have hS := hS.tr w.1
  have hB := w.2
  obtain ⟨v6, ev6, h⟩ := bd h
  by_cases hc : v6 = 0
  · have h := (if_pos hc).symm.trans h
    obtain ⟨q7, eq7, h⟩ := bd h
    have rq7 := z_rc (z_some ra0) eq7
    obtain ⟨v9, M8, eM8, h⟩ := b2d h
    have w := zX16_says fu q7 a1 a3 (some 2) M5 hB rq7 eM8
    have hS := hS.tr w.1
    have hB := w.2
    by_cases hc : v9 = 0
    · have h := (if_pos hc).symm.trans h
      have z := zX16_requestLine_L283 fu   a0 a3 a4 (some a0) (1 : Int32) M8 hB ra0 (z_some ra0) h
      exact ⟨hS.tr z.1, z.2⟩
    · have h := (if_neg hc).symm.trans h
      have z := zX16_requestLine_L282 fu   a0 a3 a4 (some a0) M8 hB ra0 (z_some ra0) h
      exact ⟨hS.tr z.1, z.2⟩
  · have h := (if_neg hc).symm.trans h
    have z := zX16_requestLine_L282 fu   a0 a3 a4 (some a0) M5 hB ra0 (z_some ra0) h
    exact ⟨hS.tr z.1, z.2⟩
theorem zX16_requestLine_L223 (fu : Nat)   (a0 : Nat) (a1 : Int32) (a2 : Int32) (a3 : Int32) (a4 : Int32)  (M : Mm) {out : Int32 × Mm} (hB : RW M) (ra0 : a0 = 323) (h : fX16_requestLine_L223 fu  a0 a1 a2 a3 a4 M = some out) : Zq M out.2 ∧ RW out.2 := by
  unfold fX16_requestLine_L223 at h
  have hS : Zq M M := Zq.rf
  obtain ⟨v1, ev1, h⟩ := bd h
  obtain ⟨v2, ev2, h⟩ := bd h
  by_cases hc : v2 = (48 : Int32)
  · have h := (if_pos hc).symm.trans h
    have z := zX16_requestLine_L242 fu   a0 a1 a3 a4 (some a0) (1 : Int32) M hB ra0 (z_some ra0) h
    exact ⟨hS.tr z.1, z.2⟩
  · have h := (if_neg hc).symm.trans h
    have z := zX16_requestLine_L242 fu   a0 a1 a3 a4 (some a0) (0 : Int32) M hB ra0 (z_some ra0) h
    exact ⟨hS.tr z.1, z.2⟩
theorem zX16_requestLine_L154 (fu : Nat) {out : Int32 × Mm}   : ∀ (n : Nat) (a0 : Nat) (a1 : Int32) (a2 : Int32) (a3 : Int32) (a4 : Int32) (a6 : Int32)  (M : Mm), RW M → a0 = 323 → fX16_requestLine_L154 fu  n a0 a1 a2 a3 a4 a6 M = some out → Zq M out.2 ∧ RW out.2 := by
  intro n
  induction n with
  | zero =>
    intro a0 a1 a2 a3 a4 a6 M hB ra0 h
    have h : (none : Option (Int32 × Mm)) = some out := h
    cases h
  | succ n ih =>
    intro a0 a1 a2 a3 a4 a6 M hB ra0 h
    rw [fX16_requestLine_L154] at h
    have hS : Zq M M := Zq.rf
    by_cases hc : a4 ≤ a6
    · have h := (if_pos hc).symm.trans h
      obtain ⟨q1, eq1, h⟩ := bd h
      have rq1 := z_rc (z_some ra0) eq1
      obtain ⟨v3, M2, eM2, h⟩ := b2d h
      have w := zX16_says fu q1 (a4 + (1 : Int32)) a2 (some 43) M hB rq1 eM2
      have hS := hS.tr w.1
      have hB := w.2
      by_cases hc : v3 = 0
      · have h := (if_pos hc).symm.trans h
        obtain ⟨q4, eq4, h⟩ := bd h
        have rq4 := z_rc (z_some ra0) eq4
        obtain ⟨v6, M5, eM5, h⟩ := b2d h
        have w := zX16_says fu q4 (a4 + (1 : Int32)) a2 (some 44) M2 hB rq4 eM5
        have hS := hS.tr w.1
        have hB := w.2
        by_cases hc : v6 = 0
        · have h := (if_pos hc).symm.trans h
          obtain ⟨hz, rfl⟩ := rN_some h
          exact ⟨hS, hB⟩
        · have h := (if_neg hc).symm.trans h
          have z := zX16_requestLine_L223 fu   a0 a1 a2 a3 a4 M5 hB ra0 h
          exact ⟨hS.tr z.1, z.2⟩
      · have h := (if_neg hc).symm.trans h
        have z := zX16_requestLine_L223 fu   a0 a1 a2 a3 a4 M2 hB ra0 h
        exact ⟨hS.tr z.1, z.2⟩
    · have h := (if_neg hc).symm.trans h
      obtain ⟨q7, eq7, h⟩ := bd h
      have rq7 := z_rc (z_some ra0) eq7
      obtain ⟨v9, M8, eM8, h⟩ := b2d h
      have w := zX16_headAt fu q7 a6 M hB rq7 eM8
      have hS := hS.tr w.1
      have hB := w.2
      by_cases hc : v9 < (33 : Int32)
      · have h := (if_pos hc).symm.trans h
        obtain ⟨hz, rfl⟩ := rN_some h
        exact ⟨hS, hB⟩
      · have h := (if_neg hc).symm.trans h
        obtain ⟨q10, eq10, h⟩ := bd h
        have rq10 := z_rc (z_some ra0) eq10
        obtain ⟨v12, M11, eM11, h⟩ := b2d h
        have w := zX16_headAt fu q10 a6 M8 hB rq10 eM11
        have hS := hS.tr w.1
        have hB := w.2
        by_cases hc : v12 ≤ (126 : Int32)
        · have h := (if_pos hc).symm.trans h
          have z := ih a0 a1 a2 a3 a4 (a6 + (1 : Int32)) M11 hB ra0 h
          exact ⟨hS.tr z.1, z.2⟩
        · have h := (if_neg hc).symm.trans h
          obtain ⟨hz, rfl⟩ := rN_some h
          exact ⟨hS, hB⟩
theorem zX16_requestLine_L113 (fu : Nat) {out : Int32 × Mm}   : ∀ (n : Nat) (a0 : Nat) (a1 : Int32) (a2 : Int32) (a3 : Int32) (a4 : Int32) (a6 : Int32)  (M : Mm), RW M → a0 = 323 → fX16_requestLine_L113 fu  n a0 a1 a2 a3 a4 a6 M = some out → Zq M out.2 ∧ RW out.2 := by
  intro n
  induction n with
  | zero =>
    intro a0 a1 a2 a3 a4 a6 M hB ra0 h
    have h : (none : Option (Int32 × Mm)) = some out := h
    cases h
  | succ n ih =>
    intro a0 a1 a2 a3 a4 a6 M hB ra0 h
    rw [fX16_requestLine_L113] at h
    have hS : Zq M M := Zq.rf
    by_cases hc : a3 ≤ a6
    · have h := (if_pos hc).symm.trans h
      have z := zX16_requestLine_L154 fu   fu a0 a1 a2 a3 a4 (a3 + (1 : Int32)) M hB ra0 h
      exact ⟨hS.tr z.1, z.2⟩
    · have h := (if_neg hc).symm.trans h
      obtain ⟨q1, eq1, h⟩ := bd h
      have rq1 := z_rc (z_some ra0) eq1
      obtain ⟨v3, M2, eM2, h⟩ := b2d h
      have w := zX16_headAt fu q1 a6 M hB rq1 eM2
      have hS := hS.tr w.1
      have hB := w.2
      by_cases hc : v3 < (65 : Int32)
      · have h := (if_pos hc).symm.trans h
        obtain ⟨hz, rfl⟩ := rN_some h
        exact ⟨hS, hB⟩
      · have h := (if_neg hc).symm.trans h
        obtain ⟨q4, eq4, h⟩ := bd h
        have rq4 := z_rc (z_some ra0) eq4
        obtain ⟨v6, M5, eM5, h⟩ := b2d h
        have w := zX16_headAt fu q4 a6 M2 hB rq4 eM5
        have hS := hS.tr w.1
        have hB := w.2
        by_cases hc : v6 ≤ (90 : Int32)
        · have h := (if_pos hc).symm.trans h
          have z := ih a0 a1 a2 a3 a4 (a6 + (1 : Int32)) M5 hB ra0 h
          exact ⟨hS.tr z.1, z.2⟩
        · have h := (if_neg hc).symm.trans h
          obtain ⟨hz, rfl⟩ := rN_some h
          exact ⟨hS, hB⟩
theorem zX16_requestLine_L51 (fu : Nat) {out : Int32 × Mm} (k11 : Nat → Int32 → Int32 → Int32 → Int32 → Int32 → Int32 → Mm → Option (Int32 × Mm)) (hk11 : ∀ (b0 : Nat) (b1 : Int32) (b2 : Int32) (b3 : Int32) (b4 : Int32) (b5 : Int32) (b6 : Int32)  (M : Mm), RW M → b0 = 323 → k11 b0 b1 b2 b3 b4 b5 b6 M = some out → Zq M out.2 ∧ RW out.2) (a0 : Nat) (a1 : Int32) (a2 : Int32) (a3 : Int32) (a4 : Int32) (a5 : Int32) (a6 : Int32)  (M : Mm) (hB : RW M) (ra0 : a0 = 323) (h : fX16_requestLine_L51 fu k11 a0 a1 a2 a3 a4 a5 a6 M = some out) : Zq M out.2 ∧ RW out.2 := by
  unfold fX16_requestLine_L51 at h
  have hS : Zq M M := Zq.rf
  have z := hk11 a0 a1 a2 a3 a4 a5 (a6 + (1 : Int32)) M hB ra0 h
  exact ⟨hS.tr z.1, z.2⟩
theorem zX16_requestLine_L41 (fu : Nat) {out : Int32 × Mm} (k11 : Nat → Int32 → Int32 → Int32 → Int32 → Int32 → Int32 → Mm → Option (Int32 × Mm)) (hk11 : ∀ (b0 : Nat) (b1 : Int32) (b2 : Int32) (b3 : Int32) (b4 : Int32) (b5 : Int32) (b6 : Int32)  (M : Mm), RW M → b0 = 323 → k11 b0 b1 b2 b3 b4 b5 b6 M = some out → Zq M out.2 ∧ RW out.2) (a0 : Nat) (a1 : Int32) (a2 : Int32) (a3 : Int32) (a4 : Int32) (a5 : Int32) (a6 : Int32)  (M : Mm) (hB : RW M) (ra0 : a0 = 323) (h : fX16_requestLine_L41 fu k11 a0 a1 a2 a3 a4 a5 a6 M = some out) : Zq M out.2 ∧ RW out.2 := by
  unfold fX16_requestLine_L41 at h
  have hS : Zq M M := Zq.rf
  by_cases hc : a5 = (2 : Int32)
  · have h := (if_pos hc).symm.trans h
    have z := zX16_requestLine_L51 fu k11 hk11 a0 a1 a2 a3 a6 a5 a6 M hB ra0 h
    exact ⟨hS.tr z.1, z.2⟩
  · have h := (if_neg hc).symm.trans h
    have z := zX16_requestLine_L51 fu k11 hk11 a0 a1 a2 a3 a4 a5 a6 M hB ra0 h
    exact ⟨hS.tr z.1, z.2⟩
theorem zX16_requestLine_L11 (fu : Nat) {out : Int32 × Mm}   : ∀ (n : Nat) (a0 : Nat) (a1 : Int32) (a2 : Int32) (a3 : Int32) (a4 : Int32) (a5 : Int32) (a6 : Int32)  (M : Mm), RW M → a0 = 323 → fX16_requestLine_L11 fu  n a0 a1 a2 a3 a4 a5 a6 M = some out → Zq M out.2 ∧ RW out.2 := by
  intro n
  induction n with
  | zero =>
    intro a0 a1 a2 a3 a4 a5 a6 M hB ra0 h
    have h : (none : Option (Int32 × Mm)) = some out := h
    cases h
  | succ n ih =>
    intro a0 a1 a2 a3 a4 a5 a6 M hB ra0 h
    rw [fX16_requestLine_L11] at h
    have hS : Zq M M := Zq.rf
    by_cases hc : a2 ≤ a6
    · have h := (if_pos hc).symm.trans h
      by_cases hc : a5 = (2 : Int32)
      · have h := (if_pos hc).symm.trans h
        by_cases hc : (a3 - a1) < (1 : Int32)
        · have h := (if_pos hc).symm.trans h
          obtain ⟨hz, rfl⟩ := rN_some h
          exact ⟨hS, hB⟩
        · have h := (if_neg hc).symm.trans h
          by_cases hc : (16 : Int32) < (a3 - a1)
          · have h := (if_pos hc).symm.trans h
            obtain ⟨hz, rfl⟩ := rN_some h
            exact ⟨hS, hB⟩
          · have h := (if_neg hc).symm.trans h
            by_cases hc : a4 = (a3 + (1 : Int32))
            · have h := (if_pos hc).symm.trans h
              obtain ⟨hz, rfl⟩ := rN_some h
              exact ⟨hS, hB⟩
            · have h := (if_neg hc).symm.trans h
              obtain ⟨v1, ev1, h⟩ := bd h
              obtain ⟨v2, ev2, h⟩ := bd h
              by_cases hc : v2 = (47 : Int32)
              · have h := (if_pos hc).symm.trans h
                by_cases hc : (a2 - a4) = (9 : Int32)
                · have h := (if_pos hc).symm.trans h
                  have z := zX16_requestLine_L113 fu   fu a0 a1 a2 a3 a4 a1 M hB ra0 h
                  exact ⟨hS.tr z.1, z.2⟩
                · have h := (if_neg hc).symm.trans h
                  obtain ⟨hz, rfl⟩ := rN_some h
                  exact ⟨hS, hB⟩
              · have h := (if_neg hc).symm.trans h
                obtain ⟨hz, rfl⟩ := rN_some h
                exact ⟨hS, hB⟩
      · have h := (if_neg hc).symm.trans h
        obtain ⟨hz, rfl⟩ := rN_some h
        exact ⟨hS, hB⟩
    · have h := (if_neg hc).symm.trans h
      obtain ⟨v3, ev3, h⟩ := bd h
      obtain ⟨v4, ev4, h⟩ := bd h
      by_cases hc : v4 = (32 : Int32)
      · have h := (if_pos hc).symm.trans h
        by_cases hc : (a5 + (1 : Int32)) = (1 : Int32)
        · have h := (if_pos hc).symm.trans h
          have z := zX16_requestLine_L41 fu (fun b0 b1 b2 b3 b4 b5 b6 M => fX16_requestLine_L11 fu  n b0 b1 b2 b3 b4 b5 b6 M) ih a0 a1 a2 a6 a4 (a5 + (1 : Int32)) a6 M hB ra0 h
          exact ⟨hS.tr z.1, z.2⟩
        · have h := (if_neg hc).symm.trans h
          have z := zX16_requestLine_L41 fu (fun b0 b1 b2 b3 b4 b5 b6 M => fX16_requestLine_L11 fu  n b0 b1 b2 b3 b4 b5 b6 M) ih a0 a1 a2 a3 a4 (a5 + (1 : Int32)) a6 M hB ra0 h
          exact ⟨hS.tr z.1, z.2⟩
      · have h := (if_neg hc).symm.trans h
        have z := zX16_requestLine_L51 fu (fun b0 b1 b2 b3 b4 b5 b6 M => fX16_requestLine_L11 fu  n b0 b1 b2 b3 b4 b5 b6 M) ih a0 a1 a2 a3 a4 a5 a6 M hB ra0 h
        exact ⟨hS.tr z.1, z.2⟩
theorem zX16_requestLine (fu : Nat)   (a0 : Nat) (a1 : Int32) (a2 : Int32)  (M : Mm) {out : Int32 × Mm} (hB : RW M) (ra0 : a0 = 323) (h : fX16_requestLine fu  a0 a1 a2 M = some out) : Zq M out.2 ∧ RW out.2 := by
  unfold fX16_requestLine at h
  have hS : Zq M M := Zq.rf
  have z := zX16_requestLine_L11 fu   fu a0 a1 a2 (-1 : Int32) (-1 : Int32) (0 : Int32) a1 M hB ra0 h
  exact ⟨hS.tr z.1, z.2⟩
theorem zX16_small (fu : Nat)   (a0 : Int32)  (M : Mm) {out : Int32 × Mm} (hB : RW M)  (h : fX16_small fu  a0 M = some out) : Zq M out.2 ∧ RW out.2 := by
  unfold fX16_small at h
  have hS : Zq M M := Zq.rf
  by_cases hc : a0 < (65 : Int32)
  · have h := (if_pos hc).symm.trans h
    obtain rfl := Option.some.inj h
    exact ⟨hS, hB⟩
  · have h := (if_neg hc).symm.trans h
    by_cases hc : (90 : Int32) < a0
    · have h := (if_pos hc).symm.trans h
      obtain rfl := Option.some.inj h
      exact ⟨hS, hB⟩
    · have h := (if_neg hc).symm.trans h
      obtain rfl := Option.some.inj h
      exact ⟨hS, hB⟩
theorem zX16_isDigit (fu : Nat)   (a0 : Int32)  (M : Mm) {out : Int32 × Mm} (hB : RW M)  (h : fX16_isDigit fu  a0 M = some out) : Zq M out.2 ∧ RW out.2 := by
  unfold fX16_isDigit at h
  have hS : Zq M M := Zq.rf
  by_cases hc : a0 < (48 : Int32)
  · have h := (if_pos hc).symm.trans h
    obtain ⟨hz, rfl⟩ := rN_some h
    exact ⟨hS, hB⟩
  · have h := (if_neg hc).symm.trans h
    by_cases hc : (57 : Int32) < a0
    · have h := (if_pos hc).symm.trans h
      obtain ⟨hz, rfl⟩ := rN_some h
      exact ⟨hS, hB⟩
    · have h := (if_neg hc).symm.trans h
      obtain ⟨hz, rfl⟩ := rN_some h
      exact ⟨hS, hB⟩
theorem zX16_isNameCode_L113 (fu : Nat)   (a0 : Int32) (a2 : Int32)  (M : Mm) {out : Int32 × Mm} (hB : RW M)  (h : fX16_isNameCode_L113 fu  a0 a2 M = some out) : Zq M out.2 ∧ RW out.2 := by
  unfold fX16_isNameCode_L113 at h
  have hS : Zq M M := Zq.rf
  obtain ⟨v2, M1, eM1, h⟩ := b2d h
  have w := zX16_isDigit fu  a0 M hB  eM1
  have hS := hS.tr w.1
  have hB := w.2
  by_cases hc : v2 = 0
  · have h := (if_pos hc).symm.trans h
    by_cases hc : a2 = 0
    · have h := (if_pos hc).symm.trans h
      obtain ⟨hz, rfl⟩ := rN_some h
      exact ⟨hS, hB⟩
    · have h := (if_neg hc).symm.trans h
      obtain ⟨hz, rfl⟩ := rN_some h
      exact ⟨hS, hB⟩
  · have h := (if_neg hc).symm.trans h
    obtain ⟨hz, rfl⟩ := rN_some h
    exact ⟨hS, hB⟩
theorem zX16_isNameCode_L100 (fu : Nat)   (a0 : Int32) (a1 : Int32) (s0 : Int32) (M : Mm) {out : Int32 × Mm} (hB : RW M)  (h : fX16_isNameCode_L100 fu  a0 a1 s0 M = some out) : Zq M out.2 ∧ RW out.2 := by
  unfold fX16_isNameCode_L100 at h
  have hS : Zq M M := Zq.rf
  by_cases hc : a1 < (97 : Int32)
  · have h := (if_pos hc).symm.trans h
    have z := zX16_isNameCode_L113 fu   a0 s0 M hB  h
    exact ⟨hS.tr z.1, z.2⟩
  · have h := (if_neg hc).symm.trans h
    by_cases hc : a1 ≤ (122 : Int32)
    · have h := (if_pos hc).symm.trans h
      obtain ⟨hz, rfl⟩ := rN_some h
      exact ⟨hS, hB⟩
    · have h := (if_neg hc).symm.trans h
      have z := zX16_isNameCode_L113 fu   a0 s0 M hB  h
      exact ⟨hS.tr z.1, z.2⟩
theorem zX16_isNameCode_L95 (fu : Nat)   (a0 : Int32) (a1 : Int32)  (M : Mm) {out : Int32 × Mm} (hB : RW M)  (h : fX16_isNameCode_L95 fu  a0 a1 M = some out) : Zq M out.2 ∧ RW out.2 := by
  unfold fX16_isNameCode_L95 at h
  have hS : Zq M M := Zq.rf
  have z := zX16_isNameCode_L100 fu   a0 a1 (1 : Int32) M hB  h
  exact ⟨hS.tr z.1, z.2⟩
theorem zX16_isNameCode (fu : Nat)   (a0 : Int32)  (M : Mm) {out : Int32 × Mm} (hB : RW M)  (h : fX16_isNameCode fu  a0 M = some out) : Zq M out.2 ∧ RW out.2 := by
  unfold fX16_isNameCode at h
  have hS : Zq M M := Zq.rf
  obtain ⟨v2, M1, eM1, h⟩ := b2d h
  have w := zX16_small fu  a0 M hB  eM1
  have hS := hS.tr w.1
  have hB := w.2
  by_cases hc : a0 = (45 : Int32)
  · have h := (if_pos hc).symm.trans h
    have z := zX16_isNameCode_L95 fu   a0 v2 M1 hB  h
    exact ⟨hS.tr z.1, z.2⟩
  · have h := (if_neg hc).symm.trans h
    by_cases hc : a0 = (95 : Int32)
    · have h := (if_pos hc).symm.trans h
      have z := zX16_isNameCode_L95 fu   a0 v2 M1 hB  h
      exact ⟨hS.tr z.1, z.2⟩
    · have h := (if_neg hc).symm.trans h
      by_cases hc : a0 = (46 : Int32)
      · have h := (if_pos hc).symm.trans h
        have z := zX16_isNameCode_L95 fu   a0 v2 M1 hB  h
        exact ⟨hS.tr z.1, z.2⟩
      · have h := (if_neg hc).symm.trans h
        by_cases hc : a0 = (33 : Int32)
        · have h := (if_pos hc).symm.trans h
          have z := zX16_isNameCode_L95 fu   a0 v2 M1 hB  h
          exact ⟨hS.tr z.1, z.2⟩
        · have h := (if_neg hc).symm.trans h
          by_cases hc : a0 = (35 : Int32)
          · have h := (if_pos hc).symm.trans h
            have z := zX16_isNameCode_L95 fu   a0 v2 M1 hB  h
            exact ⟨hS.tr z.1, z.2⟩
          · have h := (if_neg hc).symm.trans h
            by_cases hc : a0 = (36 : Int32)
            · have h := (if_pos hc).symm.trans h
              have z := zX16_isNameCode_L95 fu   a0 v2 M1 hB  h
              exact ⟨hS.tr z.1, z.2⟩
            · have h := (if_neg hc).symm.trans h
              by_cases hc : a0 = (37 : Int32)
              · have h := (if_pos hc).symm.trans h
                have z := zX16_isNameCode_L95 fu   a0 v2 M1 hB  h
                exact ⟨hS.tr z.1, z.2⟩
              · have h := (if_neg hc).symm.trans h
                by_cases hc : a0 = (38 : Int32)
                · have h := (if_pos hc).symm.trans h
                  have z := zX16_isNameCode_L95 fu   a0 v2 M1 hB  h
                  exact ⟨hS.tr z.1, z.2⟩
                · have h := (if_neg hc).symm.trans h
                  by_cases hc : a0 = (39 : Int32)
                  · have h := (if_pos hc).symm.trans h
                    have z := zX16_isNameCode_L95 fu   a0 v2 M1 hB  h
                    exact ⟨hS.tr z.1, z.2⟩
                  · have h := (if_neg hc).symm.trans h
                    by_cases hc : a0 = (42 : Int32)
                    · have h := (if_pos hc).symm.trans h
                      have z := zX16_isNameCode_L95 fu   a0 v2 M1 hB  h
                      exact ⟨hS.tr z.1, z.2⟩
                    · have h := (if_neg hc).symm.trans h
                      by_cases hc : a0 = (43 : Int32)
                      · have h := (if_pos hc).symm.trans h
                        have z := zX16_isNameCode_L95 fu   a0 v2 M1 hB  h
                        exact ⟨hS.tr z.1, z.2⟩
                      · have h := (if_neg hc).symm.trans h
                        by_cases hc : a0 = (94 : Int32)
                        · have h := (if_pos hc).symm.trans h
                          have z := zX16_isNameCode_L95 fu   a0 v2 M1 hB  h
                          exact ⟨hS.tr z.1, z.2⟩
                        · have h := (if_neg hc).symm.trans h
                          by_cases hc : a0 = (96 : Int32)
                          · have h := (if_pos hc).symm.trans h
                            have z := zX16_isNameCode_L95 fu   a0 v2 M1 hB  h
                            exact ⟨hS.tr z.1, z.2⟩
                          · have h := (if_neg hc).symm.trans h
                            by_cases hc : a0 = (124 : Int32)
                            · have h := (if_pos hc).symm.trans h
                              have z := zX16_isNameCode_L95 fu   a0 v2 M1 hB  h
                              exact ⟨hS.tr z.1, z.2⟩
                            · have h := (if_neg hc).symm.trans h
                              by_cases hc : a0 = (126 : Int32)
                              · have h := (if_pos hc).symm.trans h
                                have z := zX16_isNameCode_L95 fu   a0 v2 M1 hB  h
                                exact ⟨hS.tr z.1, z.2⟩
                              · have h := (if_neg hc).symm.trans h
                                have z := zX16_isNameCode_L100 fu   a0 v2 (0 : Int32) M1 hB  h
                                exact ⟨hS.tr z.1, z.2⟩
theorem zX16_isBlank (fu : Nat)   (a0 : Int32)  (M : Mm) {out : Int32 × Mm} (hB : RW M)  (h : fX16_isBlank fu  a0 M = some out) : Zq M out.2 ∧ RW out.2 := by
  unfold fX16_isBlank at h
  have hS : Zq M M := Zq.rf
  by_cases hc : a0 = (32 : Int32)
  · have h := (if_pos hc).symm.trans h
    obtain ⟨hz, rfl⟩ := rN_some h
    exact ⟨hS, hB⟩
  · have h := (if_neg hc).symm.trans h
    by_cases hc : a0 = (9 : Int32)
    · have h := (if_pos hc).symm.trans h
      obtain ⟨hz, rfl⟩ := rN_some h
      exact ⟨hS, hB⟩
    · have h := (if_neg hc).symm.trans h
      obtain ⟨hz, rfl⟩ := rN_some h
      exact ⟨hS, hB⟩
theorem zX16_saysSmall_L15 (fu : Nat) {out : Int32 × Mm}   : ∀ (n : Nat) (a0 : Nat) (a1 : Int32) (a2 : Int32) (a3 : Option Nat) (a4 : Int32)  (M : Mm), RW M → a0 = 323 → fX16_saysSmall_L15 fu  n a0 a1 a2 a3 a4 M = some out → Zq M out.2 ∧ RW out.2 := by
  intro n
  induction n with
  | zero =>
    intro a0 a1 a2 a3 a4 M hB ra0 h
    have h : (none : Option (Int32 × Mm)) = some out := h
    cases h
  | succ n ih =>
    intro a0 a1 a2 a3 a4 M hB ra0 h
    rw [fX16_saysSmall_L15] at h
    have hS : Zq M M := Zq.rf
    by_cases hc : a2 ≤ a4
    · have h := (if_pos hc).symm.trans h
      obtain ⟨hz, rfl⟩ := rN_some h
      exact ⟨hS, hB⟩
    · have h := (if_neg hc).symm.trans h
      obtain ⟨q1, eq1, h⟩ := bd h
      have rq1 := z_rc (z_some ra0) eq1
      obtain ⟨v3, M2, eM2, h⟩ := b2d h
      have w := zX16_headAt fu q1 a4 M hB rq1 eM2
      have hS := hS.tr w.1
      have hB := w.2
      obtain ⟨v5, M4, eM4, h⟩ := b2d h
      have w := zX16_small fu  v3 M2 hB  eM4
      have hS := hS.tr w.1
      have hB := w.2
      obtain ⟨q6, eq6, h⟩ := bd h
      obtain ⟨v8, M7, eM7, h⟩ := b2d h
      have w := zJ0_charAt_5068e fu q6 (a4 - a1) M4 hB  eM7
      have hS := hS.tr w.1
      have hB := w.2
      by_cases hc : v5 = v8
      · have h := (if_pos hc).symm.trans h
        have z := ih a0 a1 a2 a3 (a4 + (1 : Int32)) M7 hB ra0 h
        exact ⟨hS.tr z.1, z.2⟩
      · have h := (if_neg hc).symm.trans h
        obtain ⟨hz, rfl⟩ := rN_some h
        exact ⟨hS, hB⟩
theorem zX16_saysSmall (fu : Nat)   (a0 : Nat) (a1 : Int32) (a2 : Int32) (a3 : Option Nat)  (M : Mm) {out : Int32 × Mm} (hB : RW M) (ra0 : a0 = 323) (h : fX16_saysSmall fu  a0 a1 a2 a3 M = some out) : Zq M out.2 ∧ RW out.2 := by
  unfold fX16_saysSmall at h
  have hS : Zq M M := Zq.rf
  obtain ⟨q1, eq1, h⟩ := bd h
  obtain ⟨v3, M2, eM2, h⟩ := b2d h
  have w := zJ0_length_8abf5 fu q1  M hB  eM2
  have hS := hS.tr w.1
  have hB := w.2
  by_cases hc : (a2 - a1) = v3
  · have h := (if_pos hc).symm.trans h
    have z := zX16_saysSmall_L15 fu   fu a0 a1 a2 a3 a1 M2 hB ra0 h
    exact ⟨hS.tr z.1, z.2⟩
  · have h := (if_neg hc).symm.trans h
    obtain ⟨hz, rfl⟩ := rN_some h
    exact ⟨hS, hB⟩
theorem zX16_contentLength_L80 (fu : Nat)   (a0 : Nat) (a3 : Int32) (a4 : Int32)  (M : Mm) {out : Mm} (hB : RW M) (ra0 : a0 = 323) (h : fX16_contentLength_L80 fu  a0 a3 a4 M = some out) : Zq M out ∧ RW out := by
  unfold fX16_contentLength_L80 at h
  have hS : Zq M M := Zq.rf
  by_cases hc : a4 = 0
  · have h := (if_pos hc).symm.trans h
    obtain ⟨M3, eM3, h⟩ := bd h
    have w := z_pZ hB eM3 (by decide)
    have hS := hS.tr w.1
    have hB := w.2
    obtain rfl := Option.some.inj h
    exact ⟨hS, hB⟩
  · have h := (if_neg hc).symm.trans h
    by_cases hc : a3 ≤ (65536 : Int32)
    · have h := (if_pos hc).symm.trans h
      obtain ⟨M1, eM1, h⟩ := bd h
      have w := z_pF hB eM1 (by decide)
      have hS := hS.tr w.1
      have hB := w.2
      obtain rfl := Option.some.inj h
      exact ⟨hS, hB⟩
    · have h := (if_neg hc).symm.trans h
      obtain ⟨M2, eM2, h⟩ := bd h
      have w := z_pZ hB eM2 (by decide)
      have hS := hS.tr w.1
      have hB := w.2
      obtain rfl := Option.some.inj h
      exact ⟨hS, hB⟩
theorem zX16_contentLength_L37 (fu : Nat) {out : Mm}   : ∀ (n : Nat) (a0 : Nat) (a2 : Int32) (a3 : Int32) (a4 : Int32) (a5 : Int32)  (M : Mm), RW M → a0 = 323 → fX16_contentLength_L37 fu  n a0 a2 a3 a4 a5 M = some out → Zq M out ∧ RW out := by
  intro n
  induction n with
  | zero =>
    intro a0 a2 a3 a4 a5 M hB ra0 h
    have h : (none : Option (Mm)) = some out := h
    cases h
  | succ n ih =>
    intro a0 a2 a3 a4 a5 M hB ra0 h
    rw [fX16_contentLength_L37] at h
    have hS : Zq M M := Zq.rf
    by_cases hc : a2 ≤ a5
    · have h := (if_pos hc).symm.trans h
      have z := zX16_contentLength_L80 fu   a0 a3 a4 M hB ra0 h
      exact ⟨hS.tr z.1, z.2⟩
    · have h := (if_neg hc).symm.trans h
      by_cases hc : a4 = 0
      · have h := (if_pos hc).symm.trans h
        have z := zX16_contentLength_L80 fu   a0 a3 a4 M hB ra0 h
        exact ⟨hS.tr z.1, z.2⟩
      · have h := (if_neg hc).symm.trans h
        obtain ⟨q1, eq1, h⟩ := bd h
        have rq1 := z_rc (z_some ra0) eq1
        obtain ⟨v3, M2, eM2, h⟩ := b2d h
        have w := zX16_headAt fu q1 a5 M hB rq1 eM2
        have hS := hS.tr w.1
        have hB := w.2
        obtain ⟨v5, M4, eM4, h⟩ := b2d h
        have w := zX16_isDigit fu  v3 M2 hB  eM4
        have hS := hS.tr w.1
        have hB := w.2
        obtain ⟨q6, eq6, h⟩ := bd h
        have rq6 := z_rc (z_some ra0) eq6
        obtain ⟨v8, M7, eM7, h⟩ := b2d h
        have w := zX16_headAt fu q6 a5 M4 hB rq6 eM7
        have hS := hS.tr w.1
        have hB := w.2
        obtain ⟨v9, ev9, h⟩ := bd h
        have z := ih a0 a2 v9 v5 (a5 + (1 : Int32)) M7 hB ra0 h
        exact ⟨hS.tr z.1, z.2⟩
theorem zX16_contentLength_L32 (fu : Nat)   (a0 : Nat) (a1 : Int32) (a2 : Int32) (a3 : Int32) (s0 : Int32) (M : Mm) {out : Mm} (hB : RW M) (ra0 : a0 = 323) (h : fX16_contentLength_L32 fu  a0 a1 a2 a3 s0 M = some out) : Zq M out ∧ RW out := by
  unfold fX16_contentLength_L32 at h
  have hS : Zq M M := Zq.rf
  have z := zX16_contentLength_L37 fu   fu a0 a2 a3 s0 a1 M hB ra0 h
  exact ⟨hS.tr z.1, z.2⟩
theorem zX16_contentLength_L31 (fu : Nat)   (a0 : Nat) (a1 : Int32) (a2 : Int32) (a3 : Int32)  (M : Mm) {out : Mm} (hB : RW M) (ra0 : a0 = 323) (h : fX16_contentLength_L31 fu  a0 a1 a2 a3 M = some out) : Zq M out ∧ RW out := by
  unfold fX16_contentLength_L31 at h
  have hS : Zq M M := Zq.rf
  have z := zX16_contentLength_L32 fu   a0 a1 a2 a3 (0 : Int32) M hB ra0 h
  exact ⟨hS.tr z.1, z.2⟩
theorem zX16_contentLength (fu : Nat)   (a0 : Nat) (a1 : Int32) (a2 : Int32)  (M : Mm) {out : Mm} (hB : RW M) (ra0 : a0 = 323) (h : fX16_contentLength fu  a0 a1 a2 M = some out) : Zq M out ∧ RW out := by
  unfold fX16_contentLength at h
  have hS : Zq M M := Zq.rf
  obtain ⟨v1, ev1, h⟩ := bd h
  obtain ⟨M2, eM2, h⟩ := bd h
  have w := z_pF hB eM2 (by decide)
  have hS := hS.tr w.1
  have hB := w.2
  by_cases hc : (a2 - a1) < (1 : Int32)
  · have h := (if_pos hc).symm.trans h
    have z := zX16_contentLength_L31 fu   a0 a1 a2 (0 : Int32) M2 hB ra0 h
    exact ⟨hS.tr z.1, z.2⟩
  · have h := (if_neg hc).symm.trans h
    by_cases hc : (9 : Int32) < (a2 - a1)
    · have h := (if_pos hc).symm.trans h
      have z := zX16_contentLength_L31 fu   a0 a1 a2 (0 : Int32) M2 hB ra0 h
      exact ⟨hS.tr z.1, z.2⟩
    · have h := (if_neg hc).symm.trans h
      have z := zX16_contentLength_L32 fu   a0 a1 a2 (0 : Int32) (1 : Int32) M2 hB ra0 h
      exact ⟨hS.tr z.1, z.2⟩
theorem zX16_words_L81 (fu : Nat) {out : Mm} (k5 : Nat → Int32 → Int32 → Int32 → Mm → Option (Mm)) (hk5 : ∀ (b0 : Nat) (b2 : Int32) (b3 : Int32) (b4 : Int32)  (M : Mm), RW M → b0 = 323 → k5 b0 b2 b3 b4 M = some out → Zq M out ∧ RW out) (a0 : Nat) (a2 : Int32) (a3 : Int32) (a4 : Int32)  (M : Mm) (hB : RW M) (ra0 : a0 = 323) (h : fX16_words_L81 fu k5 a0 a2 a3 a4 M = some out) : Zq M out ∧ RW out := by
  unfold fX16_words_L81 at h
  have hS : Zq M M := Zq.rf
  have z := hk5 a0 a2 a3 (a4 + (1 : Int32)) M hB ra0 h
  exact ⟨hS.tr z.1, z.2⟩
theorem zX16_words_L76 (fu : Nat) {out : Mm} (k5 : Nat → Int32 → Int32 → Int32 → Mm → Option (Mm)) (hk5 : ∀ (b0 : Nat) (b2 : Int32) (b3 : Int32) (b4 : Int32)  (M : Mm), RW M → b0 = 323 → k5 b0 b2 b3 b4 M = some out → Zq M out ∧ RW out) (a0 : Nat) (a2 : Int32) (a4 : Int32)  (M : Mm) (hB : RW M) (ra0 : a0 = 323) (h : fX16_words_L76 fu k5 a0 a2 a4 M = some out) : Zq M out ∧ RW out := by
  unfold fX16_words_L76 at h
  have hS : Zq M M := Zq.rf
  have z := zX16_words_L81 fu k5 hk5 a0 a2 (a4 + (1 : Int32)) a4 M hB ra0 h
  exact ⟨hS.tr z.1, z.2⟩
theorem zX16_words_L58 (fu : Nat) {out : Mm} (k5 : Nat → Int32 → Int32 → Int32 → Mm → Option (Mm)) (hk5 : ∀ (b0 : Nat) (b2 : Int32) (b3 : Int32) (b4 : Int32)  (M : Mm), RW M → b0 = 323 → k5 b0 b2 b3 b4 M = some out → Zq M out ∧ RW out) (a0 : Nat) (a2 : Int32) (a3 : Int32) (a4 : Int32)  (M : Mm) (hB : RW M) (ra0 : a0 = 323) (h : fX16_words_L58 fu k5 a0 a2 a3 a4 M = some out) : Zq M out ∧ RW out := by
  unfold fX16_words_L58 at h
  have hS : Zq M M := Zq.rf
  obtain ⟨q1, eq1, h⟩ := bd h
  have rq1 := z_rc (z_some ra0) eq1
  obtain ⟨v3, M2, eM2, h⟩ := b2d h
  have w := zX16_saysSmall fu q1 a3 a4 (some 11) M hB rq1 eM2
  have hS := hS.tr w.1
  have hB := w.2
  by_cases hc : v3 = 0
  · have h := (if_pos hc).symm.trans h
    have z := zX16_words_L76 fu k5 hk5 a0 a2 a4 M2 hB ra0 h
    exact ⟨hS.tr z.1, z.2⟩
  · have h := (if_neg hc).symm.trans h
    obtain ⟨M4, eM4, h⟩ := bd h
    have w := z_pZ hB eM4 (by decide)
    have hS := hS.tr w.1
    have hB := w.2
    have z := zX16_words_L76 fu k5 hk5 a0 a2 a4 M4 hB ra0 h
    exact ⟨hS.tr z.1, z.2⟩
theorem zX16_words_L40 (fu : Nat) {out : Mm} (k5 : Nat → Int32 → Int32 → Int32 → Mm → Option (Mm)) (hk5 : ∀ (b0 : Nat) (b2 : Int32) (b3 : Int32) (b4 : Int32)  (M : Mm), RW M → b0 = 323 → k5 b0 b2 b3 b4 M = some out → Zq M out ∧ RW out) (a0 : Nat) (a2 : Int32) (a3 : Int32) (a4 : Int32)  (M : Mm) (hB : RW M) (ra0 : a0 = 323) (h : fX16_words_L40 fu k5 a0 a2 a3 a4 M = some out) : Zq M out ∧ RW out := by
  unfold fX16_words_L40 at h
  have hS : Zq M M := Zq.rf
  obtain ⟨q1, eq1, h⟩ := bd h
  have rq1 := z_rc (z_some ra0) eq1
  obtain ⟨v3, M2, eM2, h⟩ := b2d h
  have w := zX16_saysSmall fu q1 a3 a4 (some 10) M hB rq1 eM2
  have hS := hS.tr w.1
  have hB := w.2
  by_cases hc : v3 = 0
  · have h := (if_pos hc).symm.trans h
    have z := zX16_words_L58 fu k5 hk5 a0 a2 a3 a4 M2 hB ra0 h
    exact ⟨hS.tr z.1, z.2⟩
  · have h := (if_neg hc).symm.trans h
    obtain ⟨M4, eM4, h⟩ := bd h
    have w := z_pZ hB eM4 (by decide)
    have hS := hS.tr w.1
    have hB := w.2
    have z := zX16_words_L58 fu k5 hk5 a0 a2 a3 a4 M4 hB ra0 h
    exact ⟨hS.tr z.1, z.2⟩
theorem zX16_words_L5 (fu : Nat) {out : Mm}   : ∀ (n : Nat) (a0 : Nat) (a2 : Int32) (a3 : Int32) (a4 : Int32)  (M : Mm), RW M → a0 = 323 → fX16_words_L5 fu  n a0 a2 a3 a4 M = some out → Zq M out ∧ RW out := by
  intro n
  induction n with
  | zero =>
    intro a0 a2 a3 a4 M hB ra0 h
    have h : (none : Option (Mm)) = some out := h
    cases h
  | succ n ih =>
    intro a0 a2 a3 a4 M hB ra0 h
    rw [fX16_words_L5] at h
    have hS : Zq M M := Zq.rf
    by_cases hc : a2 < a4
    · have h := (if_pos hc).symm.trans h
      obtain rfl := Option.some.inj h
      exact ⟨hS, hB⟩
    · have h := (if_neg hc).symm.trans h
      by_cases hc : a4 = a2
      · have h := (if_pos hc).symm.trans h
        have z := zX16_words_L40 fu (fun b0 b2 b3 b4 M => fX16_words_L5 fu  n b0 b2 b3 b4 M) ih a0 a2 a3 a4 M hB ra0 h
        exact ⟨hS.tr z.1, z.2⟩
      · have h := (if_neg hc).symm.trans h
        obtain ⟨q1, eq1, h⟩ := bd h
        have rq1 := z_rc (z_some ra0) eq1
        obtain ⟨v3, M2, eM2, h⟩ := b2d h
        have w := zX16_headAt fu q1 a4 M hB rq1 eM2
        have hS := hS.tr w.1
        have hB := w.2
        by_cases hc : v3 = (44 : Int32)
        · have h := (if_pos hc).symm.trans h
          have z := zX16_words_L40 fu (fun b0 b2 b3 b4 M => fX16_words_L5 fu  n b0 b2 b3 b4 M) ih a0 a2 a3 a4 M2 hB ra0 h
          exact ⟨hS.tr z.1, z.2⟩
        · have h := (if_neg hc).symm.trans h
          obtain ⟨q4, eq4, h⟩ := bd h
          have rq4 := z_rc (z_some ra0) eq4
          obtain ⟨v6, M5, eM5, h⟩ := b2d h
          have w := zX16_headAt fu q4 a4 M2 hB rq4 eM5
          have hS := hS.tr w.1
          have hB := w.2
          obtain ⟨v8, M7, eM7, h⟩ := b2d h
          have w := zX16_isBlank fu  v6 M5 hB  eM7
          have hS := hS.tr w.1
          have hB := w.2
          by_cases hc : v8 = 0
          · have h := (if_pos hc).symm.trans h
            have z := zX16_words_L81 fu (fun b0 b2 b3 b4 M => fX16_words_L5 fu  n b0 b2 b3 b4 M) ih a0 a2 a3 a4 M7 hB ra0 h
            exact ⟨hS.tr z.1, z.2⟩
          · have h := (if_neg hc).symm.trans h
            have z := zX16_words_L40 fu (fun b0 b2 b3 b4 M => fX16_words_L5 fu  n b0 b2 b3 b4 M) ih a0 a2 a3 a4 M7 hB ra0 h
            exact ⟨hS.tr z.1, z.2⟩
theorem zX16_words (fu : Nat)   (a0 : Nat) (a1 : Int32) (a2 : Int32)  (M : Mm) {out : Mm} (hB : RW M) (ra0 : a0 = 323) (h : fX16_words fu  a0 a1 a2 M = some out) : Zq M out ∧ RW out := by
  unfold fX16_words at h
  have hS : Zq M M := Zq.rf
  have z := zX16_words_L5 fu   fu a0 a2 a1 a1 M hB ra0 h
  exact ⟨hS.tr z.1, z.2⟩
theorem zX16_field_L234 (fu : Nat)   (a0 : Nat) (a1 : Int32) (a3 : Int32) (a4 : Int32) (a5 : Int32)  (M : Mm) {out : Int32 × Mm} (hB : RW M) (ra0 : a0 = 323) (h : fX16_field_L234 fu  a0 a1 a3 a4 a5 M = some out) : Zq M out.2 ∧ RW out.2 := by
  unfold fX16_field_L234 at h
  have hS : Zq M M := Zq.rf
  obtain ⟨q1, eq1, h⟩ := bd h
  have rq1 := z_rc (z_some ra0) eq1
  obtain ⟨v3, M2, eM2, h⟩ := b2d h
  have w := zX16_saysSmall fu q1 a1 a3 (some 8) M hB rq1 eM2
  have hS := hS.tr w.1
  have hB := w.2
  by_cases hc : v3 = 0
  · have h := (if_pos hc).symm.trans h
    obtain ⟨hz, rfl⟩ := rN_some h
    exact ⟨hS, hB⟩
  · have h := (if_neg hc).symm.trans h
    obtain ⟨v4, ev4, h⟩ := bd h
    obtain ⟨M5, eM5, h⟩ := bd h
    have w := z_pF hB eM5 (by decide)
    have hS := hS.tr w.1
    have hB := w.2
    obtain ⟨M6, eM6, h⟩ := bd h
    have w := z_pF hB eM6 (by decide)
    have hS := hS.tr w.1
    have hB := w.2
    obtain ⟨M7, eM7, h⟩ := bd h
    have w := z_pF hB eM7 (by decide)
    have hS := hS.tr w.1
    have hB := w.2
    obtain ⟨hz, rfl⟩ := rN_some h
    exact ⟨hS, hB⟩
theorem zX16_field_L214 (fu : Nat)   (a0 : Nat) (a1 : Int32) (a3 : Int32) (a4 : Int32) (a5 : Int32)  (M : Mm) {out : Int32 × Mm} (hB : RW M) (ra0 : a0 = 323) (h : fX16_field_L214 fu  a0 a1 a3 a4 a5 M = some out) : Zq M out.2 ∧ RW out.2 := by
  unfold fX16_field_L214 at h
  have hS : Zq M M := Zq.rf
  obtain ⟨q1, eq1, h⟩ := bd h
  have rq1 := z_rc (z_some ra0) eq1
  obtain ⟨v3, M2, eM2, h⟩ := b2d h
  have w := zX16_saysSmall fu q1 a1 a3 (some 9) M hB rq1 eM2
  have hS := hS.tr w.1
  have hB := w.2
  by_cases hc : v3 = 0
  · have h := (if_pos hc).symm.trans h
    have z := zX16_field_L234 fu   a0 a1 a3 a4 a5 M2 hB ra0 h
    exact ⟨hS.tr z.1, z.2⟩
  · have h := (if_neg hc).symm.trans h
    obtain ⟨q4, eq4, h⟩ := bd h
    have rq4 := z_rc (z_some ra0) eq4
    obtain ⟨M5, eM5, h⟩ := bd h
    have w := zX16_words fu q4 a4 a5 M2 hB rq4 eM5
    have hS := hS.tr w.1
    have hB := w.2
    have z := zX16_field_L234 fu   a0 a1 a3 a4 a5 M5 hB ra0 h
    exact ⟨hS.tr z.1, z.2⟩
theorem zX16_field_L194 (fu : Nat)   (a0 : Nat) (a1 : Int32) (a3 : Int32) (a4 : Int32) (a5 : Int32)  (M : Mm) {out : Int32 × Mm} (hB : RW M) (ra0 : a0 = 323) (h : fX16_field_L194 fu  a0 a1 a3 a4 a5 M = some out) : Zq M out.2 ∧ RW out.2 := by
  unfold fX16_field_L194 at h
  have hS : Zq M M := Zq.rf
  obtain ⟨q1, eq1, h⟩ := bd h
  have rq1 := z_rc (z_some ra0) eq1
  obtain ⟨v3, M2, eM2, h⟩ := b2d h
  have w := zX16_saysSmall fu q1 a1 a3 (some 7) M hB rq1 eM2
  have hS := hS.tr w.1
  have hB := w.2
  by_cases hc : v3 = 0
  · have h := (if_pos hc).symm.trans h
    have z := zX16_field_L214 fu   a0 a1 a3 a4 a5 M2 hB ra0 h
    exact ⟨hS.tr z.1, z.2⟩
  · have h := (if_neg hc).symm.trans h
    obtain ⟨q4, eq4, h⟩ := bd h
    have rq4 := z_rc (z_some ra0) eq4
    obtain ⟨M5, eM5, h⟩ := bd h
    have w := zX16_contentLength fu q4 a4 a5 M2 hB rq4 eM5
    have hS := hS.tr w.1
    have hB := w.2
    have z := zX16_field_L214 fu   a0 a1 a3 a4 a5 M5 hB ra0 h
    exact ⟨hS.tr z.1, z.2⟩
theorem zX16_field_L177 (fu : Nat)   (a0 : Nat) (a1 : Int32) (a3 : Int32) (a4 : Int32) (a5 : Int32)  (M : Mm) {out : Int32 × Mm} (hB : RW M) (ra0 : a0 = 323) (h : fX16_field_L177 fu  a0 a1 a3 a4 a5 M = some out) : Zq M out.2 ∧ RW out.2 := by
  unfold fX16_field_L177 at h
  have hS : Zq M M := Zq.rf
  obtain ⟨q1, eq1, h⟩ := bd h
  have rq1 := z_rc (z_some ra0) eq1
  obtain ⟨v3, M2, eM2, h⟩ := b2d h
  have w := zX16_saysSmall fu q1 a1 a3 (some 6) M hB rq1 eM2
  have hS := hS.tr w.1
  have hB := w.2
  by_cases hc : v3 = 0
  · have h := (if_pos hc).symm.trans h
    have z := zX16_field_L194 fu   a0 a1 a3 a4 a5 M2 hB ra0 h
    exact ⟨hS.tr z.1, z.2⟩
  · have h := (if_neg hc).symm.trans h
    obtain ⟨M4, eM4, h⟩ := bd h
    have w := z_pZ hB eM4 (by decide)
    have hS := hS.tr w.1
    have hB := w.2
    have z := zX16_field_L194 fu   a0 a1 a3 a4 a5 M4 hB ra0 h
    exact ⟨hS.tr z.1, z.2⟩
theorem zX16_field_L155 (fu : Nat)   (a0 : Nat) (a1 : Int32) (a3 : Int32) (a4 : Int32) (a5 : Int32)  (M : Mm) {out : Int32 × Mm} (hB : RW M) (ra0 : a0 = 323) (h : fX16_field_L155 fu  a0 a1 a3 a4 a5 M = some out) : Zq M out.2 ∧ RW out.2 := by
  unfold fX16_field_L155 at h
  have hS : Zq M M := Zq.rf
  obtain ⟨q1, eq1, h⟩ := bd h
  have rq1 := z_rc (z_some ra0) eq1
  obtain ⟨v3, M2, eM2, h⟩ := b2d h
  have w := zX16_saysSmall fu q1 a1 a3 (some 5) M hB rq1 eM2
  have hS := hS.tr w.1
  have hB := w.2
  by_cases hc : v3 = 0
  · have h := (if_pos hc).symm.trans h
    have z := zX16_field_L177 fu   a0 a1 a3 a4 a5 M2 hB ra0 h
    exact ⟨hS.tr z.1, z.2⟩
  · have h := (if_neg hc).symm.trans h
    obtain ⟨v4, ev4, h⟩ := bd h
    obtain ⟨M5, eM5, h⟩ := bd h
    have w := z_pF hB eM5 (by decide)
    have hS := hS.tr w.1
    have hB := w.2
    have z := zX16_field_L177 fu   a0 a1 a3 a4 a5 M5 hB ra0 h
    exact ⟨hS.tr z.1, z.2⟩
theorem zX16_field_L128 (fu : Nat) {out : Int32 × Mm}   : ∀ (n : Nat) (a0 : Nat) (a1 : Int32) (a3 : Int32) (a4 : Int32) (a5 : Int32)  (M : Mm), RW M → a0 = 323 → fX16_field_L128 fu  n a0 a1 a3 a4 a5 M = some out → Zq M out.2 ∧ RW out.2 := by
  intro n
  induction n with
  | zero =>
    intro a0 a1 a3 a4 a5 M hB ra0 h
    have h : (none : Option (Int32 × Mm)) = some out := h
    cases h
  | succ n ih =>
    intro a0 a1 a3 a4 a5 M hB ra0 h
    rw [fX16_field_L128] at h
    have hS : Zq M M := Zq.rf
    by_cases hc : a5 ≤ a4
    · have h := (if_pos hc).symm.trans h
      have z := zX16_field_L155 fu   a0 a1 a3 a4 a5 M hB ra0 h
      exact ⟨hS.tr z.1, z.2⟩
    · have h := (if_neg hc).symm.trans h
      obtain ⟨q1, eq1, h⟩ := bd h
      have rq1 := z_rc (z_some ra0) eq1
      obtain ⟨v3, M2, eM2, h⟩ := b2d h
      have w := zX16_headAt fu q1 (a5 - (1 : Int32)) M hB rq1 eM2
      have hS := hS.tr w.1
      have hB := w.2
      obtain ⟨v5, M4, eM4, h⟩ := b2d h
      have w := zX16_isBlank fu  v3 M2 hB  eM4
      have hS := hS.tr w.1
      have hB := w.2
      by_cases hc : v5 = 0
      · have h := (if_pos hc).symm.trans h
        have z := zX16_field_L155 fu   a0 a1 a3 a4 a5 M4 hB ra0 h
        exact ⟨hS.tr z.1, z.2⟩
      · have h := (if_neg hc).symm.trans h
        have z := ih a0 a1 a3 a4 (a5 + (-1 : Int32)) M4 hB ra0 h
        exact ⟨hS.tr z.1, z.2⟩
theorem zX16_field_L103 (fu : Nat) {out : Int32 × Mm}   : ∀ (n : Nat) (a0 : Nat) (a1 : Int32) (a3 : Int32) (a4 : Int32) (a5 : Int32)  (M : Mm), RW M → a0 = 323 → fX16_field_L103 fu  n a0 a1 a3 a4 a5 M = some out → Zq M out.2 ∧ RW out.2 := by
  intro n
  induction n with
  | zero =>
    intro a0 a1 a3 a4 a5 M hB ra0 h
    have h : (none : Option (Int32 × Mm)) = some out := h
    cases h
  | succ n ih =>
    intro a0 a1 a3 a4 a5 M hB ra0 h
    rw [fX16_field_L103] at h
    have hS : Zq M M := Zq.rf
    by_cases hc : a5 ≤ a4
    · have h := (if_pos hc).symm.trans h
      have z := zX16_field_L128 fu   fu a0 a1 a3 a4 a5 M hB ra0 h
      exact ⟨hS.tr z.1, z.2⟩
    · have h := (if_neg hc).symm.trans h
      obtain ⟨q1, eq1, h⟩ := bd h
      have rq1 := z_rc (z_some ra0) eq1
      obtain ⟨v3, M2, eM2, h⟩ := b2d h
      have w := zX16_headAt fu q1 a4 M hB rq1 eM2
      have hS := hS.tr w.1
      have hB := w.2
      obtain ⟨v5, M4, eM4, h⟩ := b2d h
      have w := zX16_isBlank fu  v3 M2 hB  eM4
      have hS := hS.tr w.1
      have hB := w.2
      by_cases hc : v5 = 0
      · have h := (if_pos hc).symm.trans h
        have z := zX16_field_L128 fu   fu a0 a1 a3 a4 a5 M4 hB ra0 h
        exact ⟨hS.tr z.1, z.2⟩
      · have h := (if_neg hc).symm.trans h
        have z := ih a0 a1 a3 (a4 + (1 : Int32)) a5 M4 hB ra0 h
        exact ⟨hS.tr z.1, z.2⟩
theorem zX16_field_L97 (fu : Nat) {out : Int32 × Mm} (k59 : Nat → Int32 → Int32 → Int32 → Int32 → Int32 → Mm → Option (Int32 × Mm)) (hk59 : ∀ (b0 : Nat) (b1 : Int32) (b3 : Int32) (b4 : Int32) (b5 : Int32) (b6 : Int32)  (M : Mm), RW M → b0 = 323 → k59 b0 b1 b3 b4 b5 b6 M = some out → Zq M out.2 ∧ RW out.2) (a0 : Nat) (a1 : Int32) (a3 : Int32) (a4 : Int32) (a5 : Int32) (a6 : Int32)  (M : Mm) (hB : RW M) (ra0 : a0 = 323) (h : fX16_field_L97 fu k59 a0 a1 a3 a4 a5 a6 M = some out) : Zq M out.2 ∧ RW out.2 := by
  unfold fX16_field_L97 at h
  have hS : Zq M M := Zq.rf
  have z := hk59 a0 a1 a3 a4 a5 (a6 + (1 : Int32)) M hB ra0 h
  exact ⟨hS.tr z.1, z.2⟩
theorem zX16_field_L59 (fu : Nat) {out : Int32 × Mm}   : ∀ (n : Nat) (a0 : Nat) (a1 : Int32) (a3 : Int32) (a4 : Int32) (a5 : Int32) (a6 : Int32)  (M : Mm), RW M → a0 = 323 → fX16_field_L59 fu  n a0 a1 a3 a4 a5 a6 M = some out → Zq M out.2 ∧ RW out.2 := by
  intro n
  induction n with
  | zero =>
    intro a0 a1 a3 a4 a5 a6 M hB ra0 h
    have h : (none : Option (Int32 × Mm)) = some out := h
    cases h
  | succ n ih =>
    intro a0 a1 a3 a4 a5 a6 M hB ra0 h
    rw [fX16_field_L59] at h
    have hS : Zq M M := Zq.rf
    by_cases hc : a5 ≤ a6
    · have h := (if_pos hc).symm.trans h
      have z := zX16_field_L103 fu   fu a0 a1 a3 a4 a5 M hB ra0 h
      exact ⟨hS.tr z.1, z.2⟩
    · have h := (if_neg hc).symm.trans h
      obtain ⟨q1, eq1, h⟩ := bd h
      have rq1 := z_rc (z_some ra0) eq1
      obtain ⟨v3, M2, eM2, h⟩ := b2d h
      have w := zX16_headAt fu q1 a6 M hB rq1 eM2
      have hS := hS.tr w.1
      have hB := w.2
      by_cases hc : v3 = (9 : Int32)
      · have h := (if_pos hc).symm.trans h
        have z := zX16_field_L97 fu (fun b0 b1 b3 b4 b5 b6 M => fX16_field_L59 fu  n b0 b1 b3 b4 b5 b6 M) ih a0 a1 a3 a4 a5 a6 M2 hB ra0 h
        exact ⟨hS.tr z.1, z.2⟩
      · have h := (if_neg hc).symm.trans h
        by_cases hc : v3 < (32 : Int32)
        · have h := (if_pos hc).symm.trans h
          obtain ⟨hz, rfl⟩ := rN_some h
          exact ⟨hS, hB⟩
        · have h := (if_neg hc).symm.trans h
          by_cases hc : v3 = (127 : Int32)
          · have h := (if_pos hc).symm.trans h
            obtain ⟨hz, rfl⟩ := rN_some h
            exact ⟨hS, hB⟩
          · have h := (if_neg hc).symm.trans h
            have z := zX16_field_L97 fu (fun b0 b1 b3 b4 b5 b6 M => fX16_field_L59 fu  n b0 b1 b3 b4 b5 b6 M) ih a0 a1 a3 a4 a5 a6 M2 hB ra0 h
            exact ⟨hS.tr z.1, z.2⟩
theorem zX16_field_L24 (fu : Nat)   (a0 : Nat) (a1 : Int32) (a2 : Int32) (a3 : Int32)  (M : Mm) {out : Int32 × Mm} (hB : RW M) (ra0 : a0 = 323) (h : fX16_field_L24 fu  a0 a1 a2 a3 M = some out) : Zq M out.2 ∧ RW out.2 := by
  unfold fX16_field_L24 at h
  have hS : Zq M M := Zq.rf
  by_cases hc : a3 = a1
  · have h := (if_pos hc).symm.trans h
    obtain ⟨hz, rfl⟩ := rN_some h
    exact ⟨hS, hB⟩
  · have h := (if_neg hc).symm.trans h
    by_cases hc : a3 = a2
    · have h := (if_pos hc).symm.trans h
      obtain ⟨hz, rfl⟩ := rN_some h
      exact ⟨hS, hB⟩
    · have h := (if_neg hc).symm.trans h
      obtain ⟨v1, ev1, h⟩ := bd h
      obtain ⟨v2, ev2, h⟩ := bd h
      by_cases hc : v2 = (58 : Int32)
      · have h := (if_pos hc).symm.trans h
        have z := zX16_field_L59 fu   fu a0 a1 a3 (a3 + (1 : Int32)) a2 (a3 + (1 : Int32)) M hB ra0 h
        exact ⟨hS.tr z.1, z.2⟩
      · have h := (if_neg hc).symm.trans h
        obtain ⟨hz, rfl⟩ := rN_some h
        exact ⟨hS, hB⟩
theorem zX16_field_L2 (fu : Nat) {out : Int32 × Mm}   : ∀ (n : Nat) (a0 : Nat) (a1 : Int32) (a2 : Int32) (a3 : Int32)  (M : Mm), RW M → a0 = 323 → fX16_field_L2 fu  n a0 a1 a2 a3 M = some out → Zq M out.2 ∧ RW out.2 := by
  intro n
  induction n with
  | zero =>
    intro a0 a1 a2 a3 M hB ra0 h
    have h : (none : Option (Int32 × Mm)) = some out := h
    cases h
  | succ n ih =>
    intro a0 a1 a2 a3 M hB ra0 h
    rw [fX16_field_L2] at h
    have hS : Zq M M := Zq.rf
    by_cases hc : a2 ≤ a3
    · have h := (if_pos hc).symm.trans h
      have z := zX16_field_L24 fu   a0 a1 a2 a3 M hB ra0 h
      exact ⟨hS.tr z.1, z.2⟩
    · have h := (if_neg hc).symm.trans h
      obtain ⟨q1, eq1, h⟩ := bd h
      have rq1 := z_rc (z_some ra0) eq1
      obtain ⟨v3, M2, eM2, h⟩ := b2d h
      have w := zX16_headAt fu q1 a3 M hB rq1 eM2
      have hS := hS.tr w.1
      have hB := w.2
      obtain ⟨v5, M4, eM4, h⟩ := b2d h
      have w := zX16_isNameCode fu  v3 M2 hB  eM4
      have hS := hS.tr w.1
      have hB := w.2
      by_cases hc : v5 = 0
      · have h := (if_pos hc).symm.trans h
        have z := zX16_field_L24 fu   a0 a1 a2 a3 M4 hB ra0 h
        exact ⟨hS.tr z.1, z.2⟩
      · have h := (if_neg hc).symm.trans h
        have z := ih a0 a1 a2 (a3 + (1 : Int32)) M4 hB ra0 h
        exact ⟨hS.tr z.1, z.2⟩
theorem zX16_field (fu : Nat)   (a0 : Nat) (a1 : Int32) (a2 : Int32)  (M : Mm) {out : Int32 × Mm} (hB : RW M) (ra0 : a0 = 323) (h : fX16_field fu  a0 a1 a2 M = some out) : Zq M out.2 ∧ RW out.2 := by
  unfold fX16_field at h
  have hS : Zq M M := Zq.rf
  have z := zX16_field_L2 fu   fu a0 a1 a2 a1 M hB ra0 h
  exact ⟨hS.tr z.1, z.2⟩
theorem zX16_hexadecimal (fu : Nat)   (a0 : Int32)  (M : Mm) {out : Int32 × Mm} (hB : RW M)  (h : fX16_hexadecimal fu  a0 M = some out) : Zq M out.2 ∧ RW out.2 := by
  unfold fX16_hexadecimal at h
  have hS : Zq M M := Zq.rf
  obtain ⟨v2, M1, eM1, h⟩ := b2d h
  have w := zX16_isDigit fu  a0 M hB  eM1
  have hS := hS.tr w.1
  have hB := w.2
  by_cases hc : v2 = 0
  · have h := (if_pos hc).symm.trans h
    obtain ⟨v4, M3, eM3, h⟩ := b2d h
    have w := zX16_small fu  a0 M1 hB  eM3
    have hS := hS.tr w.1
    have hB := w.2
    by_cases hc : v4 < (97 : Int32)
    · have h := (if_pos hc).symm.trans h
      obtain rfl := Option.some.inj h
      exact ⟨hS, hB⟩
    · have h := (if_neg hc).symm.trans h
      obtain ⟨v6, M5, eM5, h⟩ := b2d h
      have w := zX16_small fu  a0 M3 hB  eM5
      have hS := hS.tr w.1
      have hB := w.2
      by_cases hc : (102 : Int32) < v6
      · have h := (if_pos hc).symm.trans h
        obtain rfl := Option.some.inj h
        exact ⟨hS, hB⟩
      · have h := (if_neg hc).symm.trans h
        obtain ⟨v8, M7, eM7, h⟩ := b2d h
        have w := zX16_small fu  a0 M5 hB  eM7
        have hS := hS.tr w.1
        have hB := w.2
        obtain rfl := Option.some.inj h
        exact ⟨hS, hB⟩
  · have h := (if_neg hc).symm.trans h
    obtain rfl := Option.some.inj h
    exact ⟨hS, hB⟩
theorem zX16_unfolded_L174 (fu : Nat) {out : Int32 × Mm}   : ∀ (n : Nat) (a0 : Nat) (a2 : Option Nat) (a3 : Int32)  (M : Mm), RW M → a0 = 323 → fX16_unfolded_L174 fu  n a0 a2 a3 M = some out → Zq M out.2 ∧ RW out.2 := by
  intro n
  induction n with
  | zero =>
    intro a0 a2 a3 M hB ra0 h
    have h : (none : Option (Int32 × Mm)) = some out := h
    cases h
  | succ n ih =>
    intro a0 a2 a3 M hB ra0 h
    rw [fX16_unfolded_L174] at h
    have hS : Zq M M := Zq.rf
    obtain ⟨q1, eq1, h⟩ := bd h
    obtain ⟨v3, M2, eM2, h⟩ := b2d h
    have w := zJ0_length_8abf5 fu q1  M hB  eM2
    have hS := hS.tr w.1
    have hB := w.2
    by_cases hc : v3 ≤ a3
    · have h := (if_pos hc).symm.trans h
      obtain ⟨v4, ev4, h⟩ := bd h
      obtain ⟨q5, eq5, h⟩ := bd h
      obtain ⟨v7, M6, eM6, h⟩ := b2d h
      have w := zJ0_length_8abf5 fu q5  M2 hB  eM6
      have hS := hS.tr w.1
      have hB := w.2
      obtain ⟨M8, eM8, h⟩ := bd h
      have w := z_pF hB eM8 (by decide)
      have hS := hS.tr w.1
      have hB := w.2
      obtain ⟨hz, rfl⟩ := rN_some h
      exact ⟨hS, hB⟩
    · have h := (if_neg hc).symm.trans h
      obtain ⟨v9, ev9, h⟩ := bd h
      obtain ⟨v10, ev10, h⟩ := bd h
      obtain ⟨q11, eq11, h⟩ := bd h
      obtain ⟨v13, M12, eM12, h⟩ := b2d h
      have w := zJ0_charAt_5068e fu q11 a3 M2 hB  eM12
      have hS := hS.tr w.1
      have hB := w.2
      obtain ⟨M14, eM14, h⟩ := bd h
      have w := z_pA hB (by decide) eM14
      have hS := hS.tr w.1
      have hB := w.2
      have z := ih a0 a2 (a3 + (1 : Int32)) M14 hB ra0 h
      exact ⟨hS.tr z.1, z.2⟩
theorem zX16_unfolded_L152 (fu : Nat)   (a0 : Nat)  (M : Mm) {out : Int32 × Mm} (hB : RW M) (ra0 : a0 = 323) (h : fX16_unfolded_L152 fu  a0 M = some out) : Zq M out.2 ∧ RW out.2 := by
  unfold fX16_unfolded_L152 at h
  have hS : Zq M M := Zq.rf
  obtain ⟨v1, ev1, h⟩ := bd h
  obtain ⟨v2, ev2, h⟩ := bd h
  obtain ⟨v3, ev3, h⟩ := bd h
  by_cases hc : v3 = (47 : Int32)
  · have h := (if_pos hc).symm.trans h
    have z := zX16_unfolded_L174 fu   fu a0 (some 12) (0 : Int32) M hB ra0 h
    exact ⟨hS.tr z.1, z.2⟩
  · have h := (if_neg hc).symm.trans h
    obtain ⟨hz, rfl⟩ := rN_some h
    exact ⟨hS, hB⟩
theorem zX16_unfolded_L128 (fu : Nat) {out : Int32 × Mm} (k10 : Nat → Int32 → Mm → Option (Int32 × Mm)) (hk10 : ∀ (b0 : Nat) (b1 : Int32)  (M : Mm), RW M → b0 = 323 → k10 b0 b1 M = some out → Zq M out.2 ∧ RW out.2) (a0 : Nat) (a1 : Int32) (a2 : Int32)  (M : Mm) (hB : RW M) (ra0 : a0 = 323) (h : fX16_unfolded_L128 fu k10 a0 a1 a2 M = some out) : Zq M out.2 ∧ RW out.2 := by
  unfold fX16_unfolded_L128 at h
  have hS : Zq M M := Zq.rf
  obtain ⟨v1, ev1, h⟩ := bd h
  obtain ⟨v2, ev2, h⟩ := bd h
  obtain ⟨M3, eM3, h⟩ := bd h
  have w := z_pA hB (by decide) eM3
  have hS := hS.tr w.1
  have hB := w.2
  obtain ⟨v4, ev4, h⟩ := bd h
  obtain ⟨M5, eM5, h⟩ := bd h
  have w := z_pF hB eM5 (by decide)
  have hS := hS.tr w.1
  have hB := w.2
  have z := hk10 a0 a1 M5 hB ra0 h
  exact ⟨hS.tr z.1, z.2⟩
theorem zX16_unfolded_L89 (fu : Nat) {out : Int32 × Mm} (k10 : Nat → Int32 → Mm → Option (Int32 × Mm)) (hk10 : ∀ (b0 : Nat) (b1 : Int32)  (M : Mm), RW M → b0 = 323 → k10 b0 b1 M = some out → Zq M out.2 ∧ RW out.2) (a0 : Nat) (a1 : Int32) (a3 : Int32) (s0 : Int32) (M : Mm) (hB : RW M) (ra0 : a0 = 323) (h : fX16_unfolded_L89 fu k10 a0 a1 a3 s0 M = some out) : Zq M out.2 ∧ RW out.2 := by
  unfold fX16_unfolded_L89 at h
  have hS : Zq M M := Zq.rf
  by_cases hc : a3 < 0
  · have h := (if_pos hc).symm.trans h
    obtain ⟨hz, rfl⟩ := rN_some h
    exact ⟨hS, hB⟩
  · have h := (if_neg hc).symm.trans h
    by_cases hc : 0 ≤ s0
    · have h := (if_pos hc).symm.trans h
      by_cases hc : (((16 : Int32) * a3) + s0) < (33 : Int32)
      · have h := (if_pos hc).symm.trans h
        obtain ⟨hz, rfl⟩ := rN_some h
        exact ⟨hS, hB⟩
      · have h := (if_neg hc).symm.trans h
        by_cases hc : (((16 : Int32) * a3) + s0) ≤ (126 : Int32)
        · have h := (if_pos hc).symm.trans h
          have z := zX16_unfolded_L128 fu k10 hk10 a0 (a1 + (2 : Int32)) (((16 : Int32) * a3) + s0) M hB ra0 h
          exact ⟨hS.tr z.1, z.2⟩
        · have h := (if_neg hc).symm.trans h
          obtain ⟨hz, rfl⟩ := rN_some h
          exact ⟨hS, hB⟩
    · have h := (if_neg hc).symm.trans h
      obtain ⟨hz, rfl⟩ := rN_some h
      exact ⟨hS, hB⟩
theorem zX16_unfolded_L64 (fu : Nat) {out : Int32 × Mm} (k10 : Nat → Int32 → Mm → Option (Int32 × Mm)) (hk10 : ∀ (b0 : Nat) (b1 : Int32)  (M : Mm), RW M → b0 = 323 → k10 b0 b1 M = some out → Zq M out.2 ∧ RW out.2) (a0 : Nat) (a1 : Int32) (s0 : Int32) (M : Mm) (hB : RW M) (ra0 : a0 = 323) (h : fX16_unfolded_L64 fu k10 a0 a1 s0 M = some out) : Zq M out.2 ∧ RW out.2 := by
  unfold fX16_unfolded_L64 at h
  have hS : Zq M M := Zq.rf
  obtain ⟨v1, ev1, h⟩ := bd h
  by_cases hc : v1 ≤ (a1 + (1 : Int32))
  · have h := (if_pos hc).symm.trans h
    have z := zX16_unfolded_L89 fu k10 hk10 a0 a1 s0 (-1 : Int32) M hB ra0 h
    exact ⟨hS.tr z.1, z.2⟩
  · have h := (if_neg hc).symm.trans h
    obtain ⟨q2, eq2, h⟩ := bd h
    have rq2 := z_rc (z_some ra0) eq2
    obtain ⟨v4, M3, eM3, h⟩ := b2d h
    have w := zX16_headAt fu q2 (a1 + (1 : Int32)) M hB rq2 eM3
    have hS := hS.tr w.1
    have hB := w.2
    obtain ⟨v6, M5, eM5, h⟩ := b2d h
    have w := zX16_hexadecimal fu  v4 M3 hB  eM5
    have hS := hS.tr w.1
    have hB := w.2
    have z := zX16_unfolded_L89 fu k10 hk10 a0 a1 s0 v6 M5 hB ra0 h
    exact ⟨hS.tr z.1, z.2⟩
theorem zX16_unfolded_L10 (fu : Nat) {out : Int32 × Mm}   : ∀ (n : Nat) (a0 : Nat) (a1 : Int32)  (M : Mm), RW M → a0 = 323 → fX16_unfolded_L10 fu  n a0 a1 M = some out → Zq M out.2 ∧ RW out.2 := by
  intro n
  induction n with
  | zero =>
    intro a0 a1 M hB ra0 h
    have h : (none : Option (Int32 × Mm)) = some out := h
    cases h
  | succ n ih =>
    intro a0 a1 M hB ra0 h
    rw [fX16_unfolded_L10] at h
    have hS : Zq M M := Zq.rf
    obtain ⟨v1, ev1, h⟩ := bd h
    by_cases hc : v1 ≤ a1
    · have h := (if_pos hc).symm.trans h
      have z := zX16_unfolded_L152 fu   a0 M hB ra0 h
      exact ⟨hS.tr z.1, z.2⟩
    · have h := (if_neg hc).symm.trans h
      obtain ⟨v2, ev2, h⟩ := bd h
      obtain ⟨v3, ev3, h⟩ := bd h
      by_cases hc : v3 = (63 : Int32)
      · have h := (if_pos hc).symm.trans h
        have z := zX16_unfolded_L152 fu   a0 M hB ra0 h
        exact ⟨hS.tr z.1, z.2⟩
      · have h := (if_neg hc).symm.trans h
        obtain ⟨q4, eq4, h⟩ := bd h
        have rq4 := z_rc (z_some ra0) eq4
        obtain ⟨v6, M5, eM5, h⟩ := b2d h
        have w := zX16_headAt fu q4 a1 M hB rq4 eM5
        have hS := hS.tr w.1
        have hB := w.2
        by_cases hc : v6 = (37 : Int32)
        · have h := (if_pos hc).symm.trans h
          obtain ⟨v7, ev7, h⟩ := bd h
          by_cases hc : v7 ≤ (a1 + (1 : Int32))
          · have h := (if_pos hc).symm.trans h
            have z := zX16_unfolded_L64 fu (fun b0 b1 M => fX16_unfolded_L10 fu  n b0 b1 M) ih a0 (a1 + (1 : Int32)) (-1 : Int32) M5 hB ra0 h
            exact ⟨hS.tr z.1, z.2⟩
          · have h := (if_neg hc).symm.trans h
            obtain ⟨q8, eq8, h⟩ := bd h
            have rq8 := z_rc (z_some ra0) eq8
            obtain ⟨v10, M9, eM9, h⟩ := b2d h
            have w := zX16_headAt fu q8 (a1 + (1 : Int32)) M5 hB rq8 eM9
            have hS := hS.tr w.1
            have hB := w.2
            obtain ⟨v12, M11, eM11, h⟩ := b2d h
            have w := zX16_hexadecimal fu  v10 M9 hB  eM11
            have hS := hS.tr w.1
            have hB := w.2
            have z := zX16_unfolded_L64 fu (fun b0 b1 M => fX16_unfolded_L10 fu  n b0 b1 M) ih a0 (a1 + (1 : Int32)) v12 M11 hB ra0 h
            exact ⟨hS.tr z.1, z.2⟩
        · have h := (if_neg hc).symm.trans h
          have z := zX16_unfolded_L128 fu (fun b0 b1 M => fX16_unfolded_L10 fu  n b0 b1 M) ih a0 (a1 + (1 : Int32)) v6 M5 hB ra0 h
          exact ⟨hS.tr z.1, z.2⟩
theorem zX16_unfolded (fu : Nat)   (a0 : Nat)  (M : Mm) {out : Int32 × Mm} (hB : RW M) (ra0 : a0 = 323) (h : fX16_unfolded fu  a0 M = some out) : Zq M out.2 ∧ RW out.2 := by
  unfold fX16_unfolded at h
  have hS : Zq M M := Zq.rf
  obtain ⟨M1, eM1, h⟩ := bd h
  have w := z_pF hB eM1 (by decide)
  have hS := hS.tr w.1
  have hB := w.2
  obtain ⟨v2, ev2, h⟩ := bd h
  have z := zX16_unfolded_L10 fu   fu a0 v2 M1 hB ra0 h
  exact ⟨hS.tr z.1, z.2⟩
theorem zX16_found_L70 (fu : Nat) {out : Int32 × Mm} (k2 : Nat → Int32 → Mm → Option (Int32 × Mm)) (k23 : Nat → Int32 → Int32 → Int32 → Mm → Option (Int32 × Mm)) (hk2 : ∀ (b0 : Nat) (b1 : Int32)  (M : Mm), RW M → b0 = 323 → k2 b0 b1 M = some out → Zq M out.2 ∧ RW out.2) (hk23 : ∀ (b0 : Nat) (b1 : Int32) (b2 : Int32) (b3 : Int32)  (M : Mm), RW M → b0 = 323 → k23 b0 b1 b2 b3 M = some out → Zq M out.2 ∧ RW out.2) (a0 : Nat) (a1 : Int32) (a3 : Int32) (s0 : Int32) (M : Mm) (hB : RW M) (ra0 : a0 = 323) (h : fX16_found_L70 fu k2 k23 a0 a1 a3 s0 M = some out) : Zq M out.2 ∧ RW out.2 := by
  unfold fX16_found_L70 at h
  have hS : Zq M M := Zq.rf
  have z := hk23 a0 a1 s0 (a3 + (1 : Int32)) M hB ra0 h
  exact ⟨hS.tr z.1, z.2⟩
theorem zX16_found_L69 (fu : Nat) {out : Int32 × Mm} (k2 : Nat → Int32 → Mm → Option (Int32 × Mm)) (k23 : Nat → Int32 → Int32 → Int32 → Mm → Option (Int32 × Mm)) (hk2 : ∀ (b0 : Nat) (b1 : Int32)  (M : Mm), RW M → b0 = 323 → k2 b0 b1 M = some out → Zq M out.2 ∧ RW out.2) (hk23 : ∀ (b0 : Nat) (b1 : Int32) (b2 : Int32) (b3 : Int32)  (M : Mm), RW M → b0 = 323 → k23 b0 b1 b2 b3 M = some out → Zq M out.2 ∧ RW out.2) (a0 : Nat) (a1 : Int32) (a3 : Int32)  (M : Mm) (hB : RW M) (ra0 : a0 = 323) (h : fX16_found_L69 fu k2 k23 a0 a1 a3 M = some out) : Zq M out.2 ∧ RW out.2 := by
  unfold fX16_found_L69 at h
  have hS : Zq M M := Zq.rf
  have z := zX16_found_L70 fu k2 k23 hk2 hk23 a0 a1 a3 (0 : Int32) M hB ra0 h
  exact ⟨hS.tr z.1, z.2⟩
theorem zX16_found_L62 (fu : Nat) {out : Int32 × Mm} (k2 : Nat → Int32 → Mm → Option (Int32 × Mm)) (k23 : Nat → Int32 → Int32 → Int32 → Mm → Option (Int32 × Mm)) (hk2 : ∀ (b0 : Nat) (b1 : Int32)  (M : Mm), RW M → b0 = 323 → k2 b0 b1 M = some out → Zq M out.2 ∧ RW out.2) (hk23 : ∀ (b0 : Nat) (b1 : Int32) (b2 : Int32) (b3 : Int32)  (M : Mm), RW M → b0 = 323 → k23 b0 b1 b2 b3 M = some out → Zq M out.2 ∧ RW out.2) (a0 : Nat) (a1 : Int32) (a3 : Int32) (s0 : Int32) (s1 : Int32) (M : Mm) (hB : RW M) (ra0 : a0 = 323) (h : fX16_found_L62 fu k2 k23 a0 a1 a3 s0 s1 M = some out) : Zq M out.2 ∧ RW out.2 := by
  unfold fX16_found_L62 at h
  have hS : Zq M M := Zq.rf
  by_cases hc : s0 = s1
  · have h := (if_pos hc).symm.trans h
    have z := zX16_found_L70 fu k2 k23 hk2 hk23 a0 a1 a3 (1 : Int32) M hB ra0 h
    exact ⟨hS.tr z.1, z.2⟩
  · have h := (if_neg hc).symm.trans h
    have z := zX16_found_L69 fu k2 k23 hk2 hk23 a0 a1 a3 M hB ra0 h
    exact ⟨hS.tr z.1, z.2⟩
theorem zX16_found_L23 (fu : Nat) {out : Int32 × Mm} (k2 : Nat → Int32 → Mm → Option (Int32 × Mm)) (hk2 : ∀ (b0 : Nat) (b1 : Int32)  (M : Mm), RW M → b0 = 323 → k2 b0 b1 M = some out → Zq M out.2 ∧ RW out.2) : ∀ (n : Nat) (a0 : Nat) (a1 : Int32) (a2 : Int32) (a3 : Int32)  (M : Mm), RW M → a0 = 323 → fX16_found_L23 fu k2 n a0 a1 a2 a3 M = some out → Zq M out.2 ∧ RW out.2 := by
  intro n
  induction n with
  | zero =>
    intro a0 a1 a2 a3 M hB ra0 h
    have h : (none : Option (Int32 × Mm)) = some out := h
    cases h
  | succ n ih =>
    intro a0 a1 a2 a3 M hB ra0 h
    rw [fX16_found_L23] at h
    have hS : Zq M M := Zq.rf
    by_cases hc : (48 : Int32) ≤ a3
    · have h := (if_pos hc).symm.trans h
      by_cases hc : a2 = 0
      · have h := (if_pos hc).symm.trans h
        have z := hk2 a0 (a1 + (1 : Int32)) M hB ra0 h
        exact ⟨hS.tr z.1, z.2⟩
      · have h := (if_neg hc).symm.trans h
        obtain rfl := Option.some.inj h
        exact ⟨hS, hB⟩
    · have h := (if_neg hc).symm.trans h
      by_cases hc : a2 = 0
      · have h := (if_pos hc).symm.trans h
        have z := zX16_found_L69 fu k2 (fun b0 b1 b2 b3 M => fX16_found_L23 fu k2 n b0 b1 b2 b3 M) hk2 ih a0 a1 a3 M hB ra0 h
        exact ⟨hS.tr z.1, z.2⟩
      · have h := (if_neg hc).symm.trans h
        obtain ⟨v1, ev1, h⟩ := bd h
        obtain ⟨v2, ev2, h⟩ := bd h
        obtain ⟨v3, ev3, h⟩ := bd h
        by_cases hc : v3 ≤ a3
        · have h := (if_pos hc).symm.trans h
          have z := zX16_found_L62 fu k2 (fun b0 b1 b2 b3 M => fX16_found_L23 fu k2 n b0 b1 b2 b3 M) hk2 ih a0 a1 a3 v2 (0 : Int32) M hB ra0 h
          exact ⟨hS.tr z.1, z.2⟩
        · have h := (if_neg hc).symm.trans h
          obtain ⟨v4, ev4, h⟩ := bd h
          obtain ⟨v5, ev5, h⟩ := bd h
          have z := zX16_found_L62 fu k2 (fun b0 b1 b2 b3 M => fX16_found_L23 fu k2 n b0 b1 b2 b3 M) hk2 ih a0 a1 a3 v2 v5 M hB ra0 h
          exact ⟨hS.tr z.1, z.2⟩
theorem zX16_found_L2 (fu : Nat) {out : Int32 × Mm}   : ∀ (n : Nat) (a0 : Nat) (a1 : Int32)  (M : Mm), RW M → a0 = 323 → fX16_found_L2 fu  n a0 a1 M = some out → Zq M out.2 ∧ RW out.2 := by
  intro n
  induction n with
  | zero =>
    intro a0 a1 M hB ra0 h
    have h : (none : Option (Int32 × Mm)) = some out := h
    cases h
  | succ n ih =>
    intro a0 a1 M hB ra0 h
    rw [fX16_found_L2] at h
    have hS : Zq M M := Zq.rf
    obtain ⟨v1, ev1, h⟩ := bd h
    by_cases hc : v1 ≤ a1
    · have h := (if_pos hc).symm.trans h
      obtain rfl := Option.some.inj h
      exact ⟨hS, hB⟩
    · have h := (if_neg hc).symm.trans h
      obtain ⟨v2, ev2, h⟩ := bd h
      by_cases hc : (48 : Int32) ≤ v2
      · have h := (if_pos hc).symm.trans h
        obtain rfl := Option.some.inj h
        exact ⟨hS, hB⟩
      · have h := (if_neg hc).symm.trans h
        have z := zX16_found_L23 fu (fun b0 b1 M => fX16_found_L2 fu  n b0 b1 M) ih fu a0 a1 (1 : Int32) (0 : Int32) M hB ra0 h
        exact ⟨hS.tr z.1, z.2⟩
theorem zX16_found (fu : Nat)   (a0 : Nat)  (M : Mm) {out : Int32 × Mm} (hB : RW M) (ra0 : a0 = 323) (h : fX16_found fu  a0 M = some out) : Zq M out.2 ∧ RW out.2 := by
  unfold fX16_found at h
  have hS : Zq M M := Zq.rf
  have z := zX16_found_L2 fu   fu a0 (0 : Int32) M hB ra0 h
  exact ⟨hS.tr z.1, z.2⟩
