/-! ===== whose cells are written, printed by a program of ours ===== -/
theorem oX7_note (fu : Nat)   (a0 : Nat) (a1 : Int32) (a2 : Int32) (a3 : Int32) (a4 : Int32)  (M : Mm) {out : Mm} (hB : Bd RX TX M) (ra0 : RX a0) (h : fX7_note fu  a0 a1 a2 a3 a4 M = some out) : Sm RX M out ∧ Bd RX TX out := by
  unfold fX7_note at h
  have hS : Sm RX M M := Sm.rf
  obtain ⟨q1, eq1, h⟩ := bd h
  have rq1 := rc_in hB (show 7 ≤ 11 from by decide) eq1
  obtain ⟨v3, M2, eM2, h⟩ := b2d h
  have w := oX7_isWord fu q1 a1 a2 (some 5) M hB rq1 eM2
  have hS := hS.tr w.1
  have hB := w.2
  by_cases hc : v3 = 0
  · have h := (if_pos hc).symm.trans h
    obtain ⟨q4, eq4, h⟩ := bd h
    have rq4 := rc_in hB (show 7 ≤ 11 from by decide) eq4
    obtain ⟨v6, M5, eM5, h⟩ := b2d h
    have w := oX7_isWord fu q4 a1 a2 (some 6) M2 hB rq4 eM5
    have hS := hS.tr w.1
    have hB := w.2
    by_cases hc : v6 = 0
    · have h := (if_pos hc).symm.trans h
      obtain ⟨q7, eq7, h⟩ := bd h
      have rq7 := rc_in hB (show 7 ≤ 11 from by decide) eq7
      obtain ⟨v9, M8, eM8, h⟩ := b2d h
      have w := oX7_isWord fu q7 a1 a2 (some 7) M5 hB rq7 eM8
      have hS := hS.tr w.1
      have hB := w.2
      by_cases hc : v9 = 0
      · have h := (if_pos hc).symm.trans h
        obtain ⟨q10, eq10, h⟩ := bd h
        have rq10 := rc_in hB (show 7 ≤ 11 from by decide) eq10
        obtain ⟨v12, M11, eM11, h⟩ := b2d h
        have w := oX7_isWord fu q10 a1 a2 (some 8) M8 hB rq10 eM11
        have hS := hS.tr w.1
        have hB := w.2
        by_cases hc : v12 = 0
        · have h := (if_pos hc).symm.trans h
          obtain ⟨q13, eq13, h⟩ := bd h
          have rq13 := rc_in hB (show 7 ≤ 11 from by decide) eq13
          obtain ⟨v15, M14, eM14, h⟩ := b2d h
          have w := oX7_isWord fu q13 a1 a2 (some 9) M11 hB rq13 eM14
          have hS := hS.tr w.1
          have hB := w.2
          by_cases hc : v15 = 0
          · have h := (if_pos hc).symm.trans h
            obtain rfl := Option.some.inj h
            exact ⟨hS, hB⟩
          · have h := (if_neg hc).symm.trans h
            obtain ⟨q16, eq16, h⟩ := bd h
            have rq16 := rc_in hB (show 7 ≤ 11 from by decide) eq16
            obtain ⟨M17, eM17, h⟩ := bd h
            have w := oX7_noteWords fu q16 a3 a4 M14 hB rq16 eM17
            have hS := hS.tr w.1
            have hB := w.2
            obtain rfl := Option.some.inj h
            exact ⟨hS, hB⟩
        · have h := (if_neg hc).symm.trans h
          obtain ⟨v18, ev18, h⟩ := bd h
          obtain ⟨M19, eM19, h⟩ := bd h
          have w := pF_own hB (show 7 ≤ 11 from by decide) eM19
          have hS := hS.tr w.1
          have hB := w.2
          obtain ⟨M20, eM20, h⟩ := bd h
          have w := pF_own hB (show 7 ≤ 11 from by decide) eM20
          have hS := hS.tr w.1
          have hB := w.2
          obtain ⟨M21, eM21, h⟩ := bd h
          have w := pF_own hB (show 7 ≤ 11 from by decide) eM21
          have hS := hS.tr w.1
          have hB := w.2
          obtain rfl := Option.some.inj h
          exact ⟨hS, hB⟩
      · have h := (if_neg hc).symm.trans h
        obtain ⟨v22, ev22, h⟩ := bd h
        obtain ⟨M23, eM23, h⟩ := bd h
        have w := pF_own hB (show 7 ≤ 11 from by decide) eM23
        have hS := hS.tr w.1
        have hB := w.2
        obtain ⟨q24, eq24, h⟩ := bd h
        have rq24 := rc_in hB (show 7 ≤ 11 from by decide) eq24
        obtain ⟨v26, M25, eM25, h⟩ := b2d h
        have w := oX7_decimal fu q24 a3 a4 M23 hB rq24 eM25
        have hS := hS.tr w.1
        have hB := w.2
        obtain ⟨M27, eM27, h⟩ := bd h
        have w := pF_own hB (show 7 ≤ 11 from by decide) eM27
        have hS := hS.tr w.1
        have hB := w.2
        obtain rfl := Option.some.inj h
        exact ⟨hS, hB⟩
    · have h := (if_neg hc).symm.trans h
      obtain ⟨v28, ev28, h⟩ := bd h
      obtain ⟨M29, eM29, h⟩ := bd h
      have w := pF_own hB (show 7 ≤ 11 from by decide) eM29
      have hS := hS.tr w.1
      have hB := w.2
      obtain rfl := Option.some.inj h
      exact ⟨hS, hB⟩
  · have h := (if_neg hc).symm.trans h
    obtain ⟨v30, ev30, h⟩ := bd h
    obtain ⟨M31, eM31, h⟩ := bd h
    have w := pF_own hB (show 7 ≤ 11 from by decide) eM31
    have hS := hS.tr w.1
    have hB := w.2
    obtain rfl := Option.some.inj h
    exact ⟨hS, hB⟩
theorem oX7_readField_L153 (fu : Nat) {out : Int32 × Mm} (k121 : Nat → Int32 → Int32 → Int32 → Int32 → Int32 → Mm → Option (Int32 × Mm)) (hk121 : ∀ (b0 : Nat) (b1 : Int32) (b3 : Int32) (b4 : Int32) (b5 : Int32) (b6 : Int32)  (M : Mm), Bd RX TX M → RX b0 → k121 b0 b1 b3 b4 b5 b6 M = some out → Sm RX M out.2 ∧ Bd RX TX out.2) (a0 : Nat) (a1 : Int32) (a3 : Int32) (a4 : Int32) (a5 : Int32) (a6 : Int32) (a7 : Int32)  (M : Mm) (hB : Bd RX TX M) (ra0 : RX a0) (h : fX7_readField_L153 fu k121 a0 a1 a3 a4 a5 a6 a7 M = some out) : Sm RX M out.2 ∧ Bd RX TX out.2 := by
  unfold fX7_readField_L153 at h
  have hS : Sm RX M M := Sm.rf
  by_cases hc : a7 = (127 : Int32)
  · have h := (if_pos hc).symm.trans h
    obtain ⟨hz, rfl⟩ := rN_some h
    exact ⟨hS, hB⟩
  · have h := (if_neg hc).symm.trans h
    have z := hk121 a0 a1 a3 a4 a5 (a6 + (1 : Int32)) M hB ra0 h
    exact ⟨hS.tr z.1, z.2⟩
theorem oX7_readField_L121 (fu : Nat) {out : Int32 × Mm}   : ∀ (n : Nat) (a0 : Nat) (a1 : Int32) (a3 : Int32) (a4 : Int32) (a5 : Int32) (a6 : Int32)  (M : Mm), Bd RX TX M → RX a0 → fX7_readField_L121 fu  n a0 a1 a3 a4 a5 a6 M = some out → Sm RX M out.2 ∧ Bd RX TX out.2 := by
  intro n
  induction n with
  | zero =>
    intro a0 a1 a3 a4 a5 a6 M hB ra0 h
    have h : (none : Option (Int32 × Mm)) = some out := h
    cases h
  | succ n ih =>
    intro a0 a1 a3 a4 a5 a6 M hB ra0 h
    rw [fX7_readField_L121] at h
    have hS : Sm RX M M := Sm.rf
    by_cases hc : a5 ≤ a6
    · have h := (if_pos hc).symm.trans h
      obtain ⟨q1, eq1, h⟩ := bd h
      have rq1 := rc_in hB (show 7 ≤ 11 from by decide) eq1
      obtain ⟨M2, eM2, h⟩ := bd h
      have w := oX7_note fu q1 a1 a3 a4 a5 M hB rq1 eM2
      have hS := hS.tr w.1
      have hB := w.2
      obtain ⟨hz, rfl⟩ := rN_some h
      exact ⟨hS, hB⟩
    · have h := (if_neg hc).symm.trans h
      obtain ⟨v3, ev3, h⟩ := bd h
      have iv3 := gR_in hB (show 7 ≤ 11 from by decide) ev3
      obtain ⟨v5, M4, eM4, h⟩ := b2d h
      have w := oX11_one fu  v3 a6 M hB iv3 eM4
      have hS := hS.tr w.1
      have hB := w.2
      by_cases hc : (32 : Int32) ≤ v5
      · have h := (if_pos hc).symm.trans h
        have z := oX7_readField_L153 fu (fun b0 b1 b3 b4 b5 b6 M => fX7_readField_L121 fu  n b0 b1 b3 b4 b5 b6 M) ih a0 a1 a3 a4 a5 a6 v5 M4 hB ra0 h
        exact ⟨hS.tr z.1, z.2⟩
      · have h := (if_neg hc).symm.trans h
        by_cases hc : v5 = (9 : Int32)
        · have h := (if_pos hc).symm.trans h
          have z := oX7_readField_L153 fu (fun b0 b1 b3 b4 b5 b6 M => fX7_readField_L121 fu  n b0 b1 b3 b4 b5 b6 M) ih a0 a1 a3 a4 a5 a6 v5 M4 hB ra0 h
          exact ⟨hS.tr z.1, z.2⟩
        · have h := (if_neg hc).symm.trans h
          obtain ⟨hz, rfl⟩ := rN_some h
          exact ⟨hS, hB⟩
theorem oX7_readField_L117 (fu : Nat)   (a0 : Nat) (a1 : Int32) (a3 : Int32) (a4 : Int32) (a5 : Int32)  (M : Mm) {out : Int32 × Mm} (hB : Bd RX TX M) (ra0 : RX a0) (h : fX7_readField_L117 fu  a0 a1 a3 a4 a5 M = some out) : Sm RX M out.2 ∧ Bd RX TX out.2 := by
  unfold fX7_readField_L117 at h
  have hS : Sm RX M M := Sm.rf
  have z := oX7_readField_L121 fu   fu a0 a1 a3 a4 a5 a4 M hB ra0 h
  exact ⟨hS.tr z.1, z.2⟩
theorem oX7_readField_L87 (fu : Nat) {out : Int32 × Mm}   : ∀ (n : Nat) (a0 : Nat) (a1 : Int32) (a3 : Int32) (a4 : Int32) (a5 : Int32)  (M : Mm), Bd RX TX M → RX a0 → fX7_readField_L87 fu  n a0 a1 a3 a4 a5 M = some out → Sm RX M out.2 ∧ Bd RX TX out.2 := by
  intro n
  induction n with
  | zero =>
    intro a0 a1 a3 a4 a5 M hB ra0 h
    have h : (none : Option (Int32 × Mm)) = some out := h
    cases h
  | succ n ih =>
    intro a0 a1 a3 a4 a5 M hB ra0 h
    rw [fX7_readField_L87] at h
    have hS : Sm RX M M := Sm.rf
    by_cases hc : a5 ≤ a4
    · have h := (if_pos hc).symm.trans h
      have z := oX7_readField_L117 fu   a0 a1 a3 a4 a5 M hB ra0 h
      exact ⟨hS.tr z.1, z.2⟩
    · have h := (if_neg hc).symm.trans h
      obtain ⟨v1, ev1, h⟩ := bd h
      have iv1 := gR_in hB (show 7 ≤ 11 from by decide) ev1
      obtain ⟨v3, M2, eM2, h⟩ := b2d h
      have w := oX11_one fu  v1 (a5 - (1 : Int32)) M hB iv1 eM2
      have hS := hS.tr w.1
      have hB := w.2
      obtain ⟨v5, M4, eM4, h⟩ := b2d h
      have w := oX7_isBlank fu  v3 M2 hB  eM4
      have hS := hS.tr w.1
      have hB := w.2
      by_cases hc : v5 = 0
      · have h := (if_pos hc).symm.trans h
        have z := oX7_readField_L117 fu   a0 a1 a3 a4 a5 M4 hB ra0 h
        exact ⟨hS.tr z.1, z.2⟩
      · have h := (if_neg hc).symm.trans h
        have z := ih a0 a1 a3 a4 (a5 + (-1 : Int32)) M4 hB ra0 h
        exact ⟨hS.tr z.1, z.2⟩
theorem oX7_readField_L84 (fu : Nat)   (a0 : Nat) (a1 : Int32) (a2 : Int32) (a3 : Int32) (a4 : Int32)  (M : Mm) {out : Int32 × Mm} (hB : Bd RX TX M) (ra0 : RX a0) (h : fX7_readField_L84 fu  a0 a1 a2 a3 a4 M = some out) : Sm RX M out.2 ∧ Bd RX TX out.2 := by
  unfold fX7_readField_L84 at h
  have hS : Sm RX M M := Sm.rf
  have z := oX7_readField_L87 fu   fu a0 a1 a3 a4 a2 M hB ra0 h
  exact ⟨hS.tr z.1, z.2⟩
theorem oX7_readField_L57 (fu : Nat) {out : Int32 × Mm}   : ∀ (n : Nat) (a0 : Nat) (a1 : Int32) (a2 : Int32) (a3 : Int32) (a4 : Int32)  (M : Mm), Bd RX TX M → RX a0 → fX7_readField_L57 fu  n a0 a1 a2 a3 a4 M = some out → Sm RX M out.2 ∧ Bd RX TX out.2 := by
  intro n
  induction n with
  | zero =>
    intro a0 a1 a2 a3 a4 M hB ra0 h
    have h : (none : Option (Int32 × Mm)) = some out := h
    cases h
  | succ n ih =>
    intro a0 a1 a2 a3 a4 M hB ra0 h
    rw [fX7_readField_L57] at h
    have hS : Sm RX M M := Sm.rf
    by_cases hc : a2 ≤ a4
    · have h := (if_pos hc).symm.trans h
      have z := oX7_readField_L84 fu   a0 a1 a2 a3 a4 M hB ra0 h
      exact ⟨hS.tr z.1, z.2⟩
    · have h := (if_neg hc).symm.trans h
      obtain ⟨v1, ev1, h⟩ := bd h
      have iv1 := gR_in hB (show 7 ≤ 11 from by decide) ev1
      obtain ⟨v3, M2, eM2, h⟩ := b2d h
      have w := oX11_one fu  v1 a4 M hB iv1 eM2
      have hS := hS.tr w.1
      have hB := w.2
      obtain ⟨v5, M4, eM4, h⟩ := b2d h
      have w := oX7_isBlank fu  v3 M2 hB  eM4
      have hS := hS.tr w.1
      have hB := w.2
      by_cases hc : v5 = 0
      · have h := (if_pos hc).symm.trans h
        have z := oX7_readField_L84 fu   a0 a1 a2 a3 a4 M4 hB ra0 h
        exact ⟨hS.tr z.1, z.2⟩
      · have h := (if_neg hc).symm.trans h
        have z := ih a0 a1 a2 a3 (a4 + (1 : Int32)) M4 hB ra0 h
        exact ⟨hS.tr z.1, z.2⟩
theorem oX7_readField_L27 (fu : Nat)   (a0 : Nat) (a1 : Int32) (a2 : Int32) (a3 : Int32)  (M : Mm) {out : Int32 × Mm} (hB : Bd RX TX M) (ra0 : RX a0) (h : fX7_readField_L27 fu  a0 a1 a2 a3 M = some out) : Sm RX M out.2 ∧ Bd RX TX out.2 := by
  unfold fX7_readField_L27 at h
  have hS : Sm RX M M := Sm.rf
  by_cases hc : a3 = a1
  · have h := (if_pos hc).symm.trans h
    obtain ⟨hz, rfl⟩ := rN_some h
    exact ⟨hS, hB⟩
  · have h := (if_neg hc).symm.trans h
    by_cases hc : a2 ≤ a3
    · have h := (if_pos hc).symm.trans h
      obtain ⟨hz, rfl⟩ := rN_some h
      exact ⟨hS, hB⟩
    · have h := (if_neg hc).symm.trans h
      obtain ⟨v1, ev1, h⟩ := bd h
      have iv1 := gR_in hB (show 7 ≤ 11 from by decide) ev1
      obtain ⟨v3, M2, eM2, h⟩ := b2d h
      have w := oX11_one fu  v1 a3 M hB iv1 eM2
      have hS := hS.tr w.1
      have hB := w.2
      by_cases hc : v3 = (58 : Int32)
      · have h := (if_pos hc).symm.trans h
        have z := oX7_readField_L57 fu   fu a0 a1 a2 a3 (a3 + (1 : Int32)) M2 hB ra0 h
        exact ⟨hS.tr z.1, z.2⟩
      · have h := (if_neg hc).symm.trans h
        obtain ⟨hz, rfl⟩ := rN_some h
        exact ⟨hS, hB⟩
theorem oX7_readField_L2 (fu : Nat) {out : Int32 × Mm}   : ∀ (n : Nat) (a0 : Nat) (a1 : Int32) (a2 : Int32) (a3 : Int32)  (M : Mm), Bd RX TX M → RX a0 → fX7_readField_L2 fu  n a0 a1 a2 a3 M = some out → Sm RX M out.2 ∧ Bd RX TX out.2 := by
  intro n
  induction n with
  | zero =>
    intro a0 a1 a2 a3 M hB ra0 h
    have h : (none : Option (Int32 × Mm)) = some out := h
    cases h
  | succ n ih =>
    intro a0 a1 a2 a3 M hB ra0 h
    rw [fX7_readField_L2] at h
    have hS : Sm RX M M := Sm.rf
    by_cases hc : a2 ≤ a3
    · have h := (if_pos hc).symm.trans h
      have z := oX7_readField_L27 fu   a0 a1 a2 a3 M hB ra0 h
      exact ⟨hS.tr z.1, z.2⟩
    · have h := (if_neg hc).symm.trans h
      obtain ⟨v1, ev1, h⟩ := bd h
      have iv1 := gR_in hB (show 7 ≤ 11 from by decide) ev1
      obtain ⟨v3, M2, eM2, h⟩ := b2d h
      have w := oX11_one fu  v1 a3 M hB iv1 eM2
      have hS := hS.tr w.1
      have hB := w.2
      obtain ⟨v5, M4, eM4, h⟩ := b2d h
      have w := oX7_isNameCode fu  v3 M2 hB  eM4
      have hS := hS.tr w.1
      have hB := w.2
      by_cases hc : v5 = 0
      · have h := (if_pos hc).symm.trans h
        have z := oX7_readField_L27 fu   a0 a1 a2 a3 M4 hB ra0 h
        exact ⟨hS.tr z.1, z.2⟩
      · have h := (if_neg hc).symm.trans h
        have z := ih a0 a1 a2 (a3 + (1 : Int32)) M4 hB ra0 h
        exact ⟨hS.tr z.1, z.2⟩
theorem oX7_readField (fu : Nat)   (a0 : Nat) (a1 : Int32) (a2 : Int32)  (M : Mm) {out : Int32 × Mm} (hB : Bd RX TX M) (ra0 : RX a0) (h : fX7_readField fu  a0 a1 a2 M = some out) : Sm RX M out.2 ∧ Bd RX TX out.2 := by
  unfold fX7_readField at h
  have hS : Sm RX M M := Sm.rf
  have z := oX7_readField_L2 fu   fu a0 a1 a2 a1 M hB ra0 h
  exact ⟨hS.tr z.1, z.2⟩
theorem oX7_hexDigit_L37 (fu : Nat)   (a0 : Int32)  (M : Mm) {out : Int32 × Mm} (hB : Bd RX TX M)  (h : fX7_hexDigit_L37 fu  a0 M = some out) : Sm RX M out.2 ∧ Bd RX TX out.2 := by
  unfold fX7_hexDigit_L37 at h
  have hS : Sm RX M M := Sm.rf
  by_cases hc : a0 < (65 : Int32)
  · have h := (if_pos hc).symm.trans h
    obtain rfl := Option.some.inj h
    exact ⟨hS, hB⟩
  · have h := (if_neg hc).symm.trans h
    by_cases hc : (70 : Int32) < a0
    · have h := (if_pos hc).symm.trans h
      obtain rfl := Option.some.inj h
      exact ⟨hS, hB⟩
    · have h := (if_neg hc).symm.trans h
      obtain rfl := Option.some.inj h
      exact ⟨hS, hB⟩
theorem oX7_hexDigit_L17 (fu : Nat)   (a0 : Int32)  (M : Mm) {out : Int32 × Mm} (hB : Bd RX TX M)  (h : fX7_hexDigit_L17 fu  a0 M = some out) : Sm RX M out.2 ∧ Bd RX TX out.2 := by
  unfold fX7_hexDigit_L17 at h
  have hS : Sm RX M M := Sm.rf
  by_cases hc : a0 < (97 : Int32)
  · have h := (if_pos hc).symm.trans h
    have z := oX7_hexDigit_L37 fu   a0 M hB  h
    exact ⟨hS.tr z.1, z.2⟩
  · have h := (if_neg hc).symm.trans h
    by_cases hc : (102 : Int32) < a0
    · have h := (if_pos hc).symm.trans h
      have z := oX7_hexDigit_L37 fu   a0 M hB  h
      exact ⟨hS.tr z.1, z.2⟩
    · have h := (if_neg hc).symm.trans h
      obtain rfl := Option.some.inj h
      exact ⟨hS, hB⟩
theorem oX7_hexDigit (fu : Nat)   (a0 : Int32)  (M : Mm) {out : Int32 × Mm} (hB : Bd RX TX M)  (h : fX7_hexDigit fu  a0 M = some out) : Sm RX M out.2 ∧ Bd RX TX out.2 := by
  unfold fX7_hexDigit at h
  have hS : Sm RX M M := Sm.rf
  by_cases hc : a0 < (48 : Int32)
  · have h := (if_pos hc).symm.trans h
    have z := oX7_hexDigit_L17 fu   a0 M hB  h
    exact ⟨hS.tr z.1, z.2⟩
  · have h := (if_neg hc).symm.trans h
    by_cases hc : (57 : Int32) < a0
    · have h := (if_pos hc).symm.trans h
      have z := oX7_hexDigit_L17 fu   a0 M hB  h
      exact ⟨hS.tr z.1, z.2⟩
    · have h := (if_neg hc).symm.trans h
      obtain rfl := Option.some.inj h
      exact ⟨hS, hB⟩
theorem oX7_addToPath (fu : Nat)   (a0 : Nat) (a1 : Int32)  (M : Mm) {out : Mm} (hB : Bd RX TX M) (ra0 : RX a0) (h : fX7_addToPath fu  a0 a1 M = some out) : Sm RX M out ∧ Bd RX TX out := by
  unfold fX7_addToPath at h
  have hS : Sm RX M M := Sm.rf
  obtain ⟨v1, ev1, h⟩ := bd h
  obtain ⟨v2, ev2, h⟩ := bd h
  have iv2 := gR_in hB (show 7 ≤ 11 from by decide) ev2
  obtain ⟨v3, ev3, h⟩ := bd h
  by_cases hc : v3 ≤ v1
  · have h := (if_pos hc).symm.trans h
    obtain rfl := Option.some.inj h
    exact ⟨hS, hB⟩
  · have h := (if_neg hc).symm.trans h
    obtain ⟨v4, ev4, h⟩ := bd h
    have iv4 := gR_in hB (show 7 ≤ 11 from by decide) ev4
    obtain ⟨v5, ev5, h⟩ := bd h
    obtain ⟨M6, eM6, h⟩ := bd h
    have w := pA_ownB hB iv4 eM6
    have hS := hS.tr w.1
    have hB := w.2
    obtain ⟨v7, ev7, h⟩ := bd h
    obtain ⟨M8, eM8, h⟩ := bd h
    have w := pF_own hB (show 7 ≤ 11 from by decide) eM8
    have hS := hS.tr w.1
    have hB := w.2
    obtain rfl := Option.some.inj h
    exact ⟨hS, hB⟩
theorem oX7_readPath_L160 (fu : Nat) {out : Int32 × Mm}   : ∀ (n : Nat) (a0 : Nat) (a2 : Option Nat) (a3 : Int32)  (M : Mm), Bd RX TX M → RX a0 → fX7_readPath_L160 fu  n a0 a2 a3 M = some out → Sm RX M out.2 ∧ Bd RX TX out.2 := by
  intro n
  induction n with
  | zero =>
    intro a0 a2 a3 M hB ra0 h
    have h : (none : Option (Int32 × Mm)) = some out := h
    cases h
  | succ n ih =>
    intro a0 a2 a3 M hB ra0 h
    rw [fX7_readPath_L160] at h
    have hS : Sm RX M M := Sm.rf
    obtain ⟨q1, eq1, h⟩ := bd h
    obtain ⟨v3, M2, eM2, h⟩ := b2d h
    have w := oJ0_length_8abf5 fu q1  M hB  eM2
    have hS := hS.tr w.1
    have hB := w.2
    by_cases hc : v3 ≤ a3
    · have h := (if_pos hc).symm.trans h
      obtain ⟨hz, rfl⟩ := rN_some h
      exact ⟨hS, hB⟩
    · have h := (if_neg hc).symm.trans h
      obtain ⟨q4, eq4, h⟩ := bd h
      obtain ⟨v6, M5, eM5, h⟩ := b2d h
      have w := oJ0_charAt_5068e fu q4 a3 M2 hB  eM5
      have hS := hS.tr w.1
      have hB := w.2
      obtain ⟨q7, eq7, h⟩ := bd h
      have rq7 := rc_in hB (show 7 ≤ 11 from by decide) eq7
      obtain ⟨M8, eM8, h⟩ := bd h
      have w := oX7_addToPath fu q7 v6 M5 hB rq7 eM8
      have hS := hS.tr w.1
      have hB := w.2
      have z := ih a0 a2 (a3 + (1 : Int32)) M8 hB ra0 h
      exact ⟨hS.tr z.1, z.2⟩
theorem oX7_readPath_L149 (fu : Nat)   (a0 : Nat) (a1 : Int32)  (M : Mm) {out : Int32 × Mm} (hB : Bd RX TX M) (ra0 : RX a0) (h : fX7_readPath_L149 fu  a0 a1 M = some out) : Sm RX M out.2 ∧ Bd RX TX out.2 := by
  unfold fX7_readPath_L149 at h
  have hS : Sm RX M M := Sm.rf
  by_cases hc : a1 = (47 : Int32)
  · have h := (if_pos hc).symm.trans h
    have z := oX7_readPath_L160 fu   fu a0 (some 12) (0 : Int32) M hB ra0 h
    exact ⟨hS.tr z.1, z.2⟩
  · have h := (if_neg hc).symm.trans h
    obtain ⟨hz, rfl⟩ := rN_some h
    exact ⟨hS, hB⟩
theorem oX7_readPath_L138 (fu : Nat) {out : Int32 × Mm} (k12 : Nat → Int32 → Int32 → Mm → Option (Int32 × Mm)) (hk12 : ∀ (b0 : Nat) (b1 : Int32) (b2 : Int32)  (M : Mm), Bd RX TX M → RX b0 → k12 b0 b1 b2 M = some out → Sm RX M out.2 ∧ Bd RX TX out.2) (a0 : Nat) (a1 : Int32) (a2 : Int32)  (M : Mm) (hB : Bd RX TX M) (ra0 : RX a0) (h : fX7_readPath_L138 fu k12 a0 a1 a2 M = some out) : Sm RX M out.2 ∧ Bd RX TX out.2 := by
  unfold fX7_readPath_L138 at h
  have hS : Sm RX M M := Sm.rf
  obtain ⟨q1, eq1, h⟩ := bd h
  have rq1 := rc_in hB (show 7 ≤ 11 from by decide) eq1
  obtain ⟨M2, eM2, h⟩ := bd h
  have w := oX7_addToPath fu q1 a1 M hB rq1 eM2
  have hS := hS.tr w.1
  have hB := w.2
  have z := hk12 a0 a1 (a2 + (1 : Int32)) M2 hB ra0 h
  exact ⟨hS.tr z.1, z.2⟩
theorem oX7_readPath_L103 (fu : Nat) {out : Int32 × Mm} (k12 : Nat → Int32 → Int32 → Mm → Option (Int32 × Mm)) (hk12 : ∀ (b0 : Nat) (b1 : Int32) (b2 : Int32)  (M : Mm), Bd RX TX M → RX b0 → k12 b0 b1 b2 M = some out → Sm RX M out.2 ∧ Bd RX TX out.2) (a0 : Nat) (a2 : Int32) (a3 : Int32) (s0 : Int32) (M : Mm) (hB : Bd RX TX M) (ra0 : RX a0) (h : fX7_readPath_L103 fu k12 a0 a2 a3 s0 M = some out) : Sm RX M out.2 ∧ Bd RX TX out.2 := by
  unfold fX7_readPath_L103 at h
  have hS : Sm RX M M := Sm.rf
  by_cases hc : a3 < 0
  · have h := (if_pos hc).symm.trans h
    obtain ⟨hz, rfl⟩ := rN_some h
    exact ⟨hS, hB⟩
  · have h := (if_neg hc).symm.trans h
    by_cases hc : s0 < 0
    · have h := (if_pos hc).symm.trans h
      obtain ⟨hz, rfl⟩ := rN_some h
      exact ⟨hS, hB⟩
    · have h := (if_neg hc).symm.trans h
      by_cases hc : ((a3 <<< ((4 : Int32) &&& 31)) ||| s0) < (33 : Int32)
      · have h := (if_pos hc).symm.trans h
        obtain ⟨hz, rfl⟩ := rN_some h
        exact ⟨hS, hB⟩
      · have h := (if_neg hc).symm.trans h
        by_cases hc : ((a3 <<< ((4 : Int32) &&& 31)) ||| s0) ≤ (126 : Int32)
        · have h := (if_pos hc).symm.trans h
          have z := oX7_readPath_L138 fu k12 hk12 a0 ((a3 <<< ((4 : Int32) &&& 31)) ||| s0) (a2 + (2 : Int32)) M hB ra0 h
          exact ⟨hS.tr z.1, z.2⟩
        · have h := (if_neg hc).symm.trans h
          obtain ⟨hz, rfl⟩ := rN_some h
          exact ⟨hS, hB⟩
theorem oX7_readPath_L75 (fu : Nat) {out : Int32 × Mm} (k12 : Nat → Int32 → Int32 → Mm → Option (Int32 × Mm)) (hk12 : ∀ (b0 : Nat) (b1 : Int32) (b2 : Int32)  (M : Mm), Bd RX TX M → RX b0 → k12 b0 b1 b2 M = some out → Sm RX M out.2 ∧ Bd RX TX out.2) (a0 : Nat) (a2 : Int32) (s0 : Int32) (M : Mm) (hB : Bd RX TX M) (ra0 : RX a0) (h : fX7_readPath_L75 fu k12 a0 a2 s0 M = some out) : Sm RX M out.2 ∧ Bd RX TX out.2 := by
  unfold fX7_readPath_L75 at h
  have hS : Sm RX M M := Sm.rf
  obtain ⟨v1, ev1, h⟩ := bd h
  by_cases hc : v1 ≤ (a2 + (2 : Int32))
  · have h := (if_pos hc).symm.trans h
    have z := oX7_readPath_L103 fu k12 hk12 a0 a2 s0 (-1 : Int32) M hB ra0 h
    exact ⟨hS.tr z.1, z.2⟩
  · have h := (if_neg hc).symm.trans h
    obtain ⟨v2, ev2, h⟩ := bd h
    have iv2 := gR_in hB (show 7 ≤ 11 from by decide) ev2
    obtain ⟨v4, M3, eM3, h⟩ := b2d h
    have w := oX11_one fu  v2 (a2 + (2 : Int32)) M hB iv2 eM3
    have hS := hS.tr w.1
    have hB := w.2
    obtain ⟨v6, M5, eM5, h⟩ := b2d h
    have w := oX7_hexDigit fu  v4 M3 hB  eM5
    have hS := hS.tr w.1
    have hB := w.2
    have z := oX7_readPath_L103 fu k12 hk12 a0 a2 s0 v6 M5 hB ra0 h
    exact ⟨hS.tr z.1, z.2⟩
theorem oX7_readPath_L12 (fu : Nat) {out : Int32 × Mm}   : ∀ (n : Nat) (a0 : Nat) (a1 : Int32) (a2 : Int32)  (M : Mm), Bd RX TX M → RX a0 → fX7_readPath_L12 fu  n a0 a1 a2 M = some out → Sm RX M out.2 ∧ Bd RX TX out.2 := by
  intro n
  induction n with
  | zero =>
    intro a0 a1 a2 M hB ra0 h
    have h : (none : Option (Int32 × Mm)) = some out := h
    cases h
  | succ n ih =>
    intro a0 a1 a2 M hB ra0 h
    rw [fX7_readPath_L12] at h
    have hS : Sm RX M M := Sm.rf
    obtain ⟨v1, ev1, h⟩ := bd h
    by_cases hc : v1 ≤ a2
    · have h := (if_pos hc).symm.trans h
      have z := oX7_readPath_L149 fu   a0 a1 M hB ra0 h
      exact ⟨hS.tr z.1, z.2⟩
    · have h := (if_neg hc).symm.trans h
      obtain ⟨v2, ev2, h⟩ := bd h
      have iv2 := gR_in hB (show 7 ≤ 11 from by decide) ev2
      obtain ⟨v4, M3, eM3, h⟩ := b2d h
      have w := oX11_one fu  v2 a2 M hB iv2 eM3
      have hS := hS.tr w.1
      have hB := w.2
      by_cases hc : v4 = (63 : Int32)
      · have h := (if_pos hc).symm.trans h
        have z := oX7_readPath_L149 fu   a0 a1 M3 hB ra0 h
        exact ⟨hS.tr z.1, z.2⟩
      · have h := (if_neg hc).symm.trans h
        obtain ⟨v5, ev5, h⟩ := bd h
        have iv5 := gR_in hB (show 7 ≤ 11 from by decide) ev5
        obtain ⟨v7, M6, eM6, h⟩ := b2d h
        have w := oX11_one fu  v5 a2 M3 hB iv5 eM6
        have hS := hS.tr w.1
        have hB := w.2
        by_cases hc : v7 = (37 : Int32)
        · have h := (if_pos hc).symm.trans h
          obtain ⟨v8, ev8, h⟩ := bd h
          by_cases hc : v8 ≤ (a2 + (1 : Int32))
          · have h := (if_pos hc).symm.trans h
            have z := oX7_readPath_L75 fu (fun b0 b1 b2 M => fX7_readPath_L12 fu  n b0 b1 b2 M) ih a0 a2 (-1 : Int32) M6 hB ra0 h
            exact ⟨hS.tr z.1, z.2⟩
          · have h := (if_neg hc).symm.trans h
            obtain ⟨v9, ev9, h⟩ := bd h
            have iv9 := gR_in hB (show 7 ≤ 11 from by decide) ev9
            obtain ⟨v11, M10, eM10, h⟩ := b2d h
            have w := oX11_one fu  v9 (a2 + (1 : Int32)) M6 hB iv9 eM10
            have hS := hS.tr w.1
            have hB := w.2
            obtain ⟨v13, M12, eM12, h⟩ := b2d h
            have w := oX7_hexDigit fu  v11 M10 hB  eM12
            have hS := hS.tr w.1
            have hB := w.2
            have z := oX7_readPath_L75 fu (fun b0 b1 b2 M => fX7_readPath_L12 fu  n b0 b1 b2 M) ih a0 a2 v13 M12 hB ra0 h
            exact ⟨hS.tr z.1, z.2⟩
        · have h := (if_neg hc).symm.trans h
          have z := oX7_readPath_L138 fu (fun b0 b1 b2 M => fX7_readPath_L12 fu  n b0 b1 b2 M) ih a0 v7 a2 M6 hB ra0 h
          exact ⟨hS.tr z.1, z.2⟩
theorem oX7_readPath (fu : Nat)   (a0 : Nat)  (M : Mm) {out : Int32 × Mm} (hB : Bd RX TX M) (ra0 : RX a0) (h : fX7_readPath fu  a0 M = some out) : Sm RX M out.2 ∧ Bd RX TX out.2 := by
  unfold fX7_readPath at h
  have hS : Sm RX M M := Sm.rf
  obtain ⟨M1, eM1, h⟩ := bd h
  have w := pF_own hB (show 7 ≤ 11 from by decide) eM1
  have hS := hS.tr w.1
  have hB := w.2
  obtain ⟨v2, ev2, h⟩ := bd h
  have z := oX7_readPath_L12 fu   fu a0 (0 : Int32) v2 M1 hB ra0 h
  exact ⟨hS.tr z.1, z.2⟩
theorem oX8_find_L59 (fu : Nat) {out : Int32 × Mm} (k2 : Nat → Option Nat → Int32 → Int32 → Mm → Option (Int32 × Mm)) (hk2 : ∀ (b0 : Nat) (b1 : Option Nat) (b2 : Int32) (b3 : Int32)  (M : Mm), Bd RX TX M → RX b0 → inR RX b1 → k2 b0 b1 b2 b3 M = some out → Sm RX M out.2 ∧ Bd RX TX out.2) (a0 : Nat) (a1 : Option Nat) (a2 : Int32) (a3 : Int32) (a4 : Int32)  (M : Mm) (hB : Bd RX TX M) (ra0 : RX a0) (ia1 : inR RX a1) (h : fX8_find_L59 fu k2 a0 a1 a2 a3 a4 M = some out) : Sm RX M out.2 ∧ Bd RX TX out.2 := by
  unfold fX8_find_L59 at h
  have hS : Sm RX M M := Sm.rf
  by_cases hc : a4 = (48 : Int32)
  · have h := (if_pos hc).symm.trans h
    obtain rfl := Option.some.inj h
    exact ⟨hS, hB⟩
  · have h := (if_neg hc).symm.trans h
    have z := hk2 a0 a1 a2 (a3 + (1 : Int32)) M hB ra0 ia1 h
    exact ⟨hS.tr z.1, z.2⟩
theorem oX8_find_L50 (fu : Nat) {out : Int32 × Mm} (k2 : Nat → Option Nat → Int32 → Int32 → Mm → Option (Int32 × Mm)) (k13 : Nat → Option Nat → Int32 → Int32 → Int32 → Mm → Option (Int32 × Mm)) (hk2 : ∀ (b0 : Nat) (b1 : Option Nat) (b2 : Int32) (b3 : Int32)  (M : Mm), Bd RX TX M → RX b0 → inR RX b1 → k2 b0 b1 b2 b3 M = some out → Sm RX M out.2 ∧ Bd RX TX out.2) (hk13 : ∀ (b0 : Nat) (b1 : Option Nat) (b2 : Int32) (b3 : Int32) (b4 : Int32)  (M : Mm), Bd RX TX M → RX b0 → inR RX b1 → k13 b0 b1 b2 b3 b4 M = some out → Sm RX M out.2 ∧ Bd RX TX out.2) (a0 : Nat) (a1 : Option Nat) (a2 : Int32) (a3 : Int32) (a4 : Int32) (s0 : Int32) (s1 : Int32) (M : Mm) (hB : Bd RX TX M) (ra0 : RX a0) (ia1 : inR RX a1) (h : fX8_find_L50 fu k2 k13 a0 a1 a2 a3 a4 s0 s1 M = some out) : Sm RX M out.2 ∧ Bd RX TX out.2 := by
  unfold fX8_find_L50 at h
  have hS : Sm RX M M := Sm.rf
  by_cases hc : s0 = s1
  · have h := (if_pos hc).symm.trans h
    have z := hk13 a0 a1 a2 a3 (a4 + (1 : Int32)) M hB ra0 ia1 h
    exact ⟨hS.tr z.1, z.2⟩
  · have h := (if_neg hc).symm.trans h
    have z := oX8_find_L59 fu k2 hk2 a0 a1 a2 a3 a4 M hB ra0 ia1 h
    exact ⟨hS.tr z.1, z.2⟩
theorem oX8_find_L13 (fu : Nat) {out : Int32 × Mm} (k2 : Nat → Option Nat → Int32 → Int32 → Mm → Option (Int32 × Mm)) (hk2 : ∀ (b0 : Nat) (b1 : Option Nat) (b2 : Int32) (b3 : Int32)  (M : Mm), Bd RX TX M → RX b0 → inR RX b1 → k2 b0 b1 b2 b3 M = some out → Sm RX M out.2 ∧ Bd RX TX out.2) : ∀ (n : Nat) (a0 : Nat) (a1 : Option Nat) (a2 : Int32) (a3 : Int32) (a4 : Int32)  (M : Mm), Bd RX TX M → RX a0 → inR RX a1 → fX8_find_L13 fu k2 n a0 a1 a2 a3 a4 M = some out → Sm RX M out.2 ∧ Bd RX TX out.2 := by
  intro n
  induction n with
  | zero =>
    intro a0 a1 a2 a3 a4 M hB ra0 ia1 h
    have h : (none : Option (Int32 × Mm)) = some out := h
    cases h
  | succ n ih =>
    intro a0 a1 a2 a3 a4 M hB ra0 ia1 h
    rw [fX8_find_L13] at h
    have hS : Sm RX M M := Sm.rf
    by_cases hc : (48 : Int32) ≤ a4
    · have h := (if_pos hc).symm.trans h
      have z := oX8_find_L59 fu k2 hk2 a0 a1 a2 a3 a4 M hB ra0 ia1 h
      exact ⟨hS.tr z.1, z.2⟩
    · have h := (if_neg hc).symm.trans h
      obtain ⟨v1, ev1, h⟩ := bd h
      have iv1 := gR_in hB (show 8 ≤ 11 from by decide) ev1
      obtain ⟨v3, M2, eM2, h⟩ := b2d h
      have w := oX11_one fu  v1 ((a3 * (64 : Int32)) + a4) M hB iv1 eM2
      have hS := hS.tr w.1
      have hB := w.2
      by_cases hc : a2 ≤ a4
      · have h := (if_pos hc).symm.trans h
        have z := oX8_find_L50 fu k2 (fun b0 b1 b2 b3 b4 M => fX8_find_L13 fu k2 n b0 b1 b2 b3 b4 M) hk2 ih a0 a1 a2 a3 a4 v3 (0 : Int32) M2 hB ra0 ia1 h
        exact ⟨hS.tr z.1, z.2⟩
      · have h := (if_neg hc).symm.trans h
        obtain ⟨v5, M4, eM4, h⟩ := b2d h
        have w := oX11_one fu  a1 a4 M2 hB ia1 eM4
        have hS := hS.tr w.1
        have hB := w.2
        have z := oX8_find_L50 fu k2 (fun b0 b1 b2 b3 b4 M => fX8_find_L13 fu k2 n b0 b1 b2 b3 b4 M) hk2 ih a0 a1 a2 a3 a4 v3 v5 M4 hB ra0 ia1 h
        exact ⟨hS.tr z.1, z.2⟩
theorem oX8_find_L2 (fu : Nat) {out : Int32 × Mm}   : ∀ (n : Nat) (a0 : Nat) (a1 : Option Nat) (a2 : Int32) (a3 : Int32)  (M : Mm), Bd RX TX M → RX a0 → inR RX a1 → fX8_find_L2 fu  n a0 a1 a2 a3 M = some out → Sm RX M out.2 ∧ Bd RX TX out.2 := by
  intro n
  induction n with
  | zero =>
    intro a0 a1 a2 a3 M hB ra0 ia1 h
    have h : (none : Option (Int32 × Mm)) = some out := h
    cases h
  | succ n ih =>
    intro a0 a1 a2 a3 M hB ra0 ia1 h
    rw [fX8_find_L2] at h
    have hS : Sm RX M M := Sm.rf
    obtain ⟨v1, ev1, h⟩ := bd h
    by_cases hc : v1 ≤ a3
    · have h := (if_pos hc).symm.trans h
      obtain rfl := Option.some.inj h
      exact ⟨hS, hB⟩
    · have h := (if_neg hc).symm.trans h
      have z := oX8_find_L13 fu (fun b0 b1 b2 b3 M => fX8_find_L2 fu  n b0 b1 b2 b3 M) ih fu a0 a1 a2 a3 (0 : Int32) M hB ra0 ia1 h
      exact ⟨hS.tr z.1, z.2⟩
theorem oX8_find (fu : Nat)   (a0 : Nat) (a1 : Option Nat) (a2 : Int32)  (M : Mm) {out : Int32 × Mm} (hB : Bd RX TX M) (ra0 : RX a0) (ia1 : inR RX a1) (h : fX8_find fu  a0 a1 a2 M = some out) : Sm RX M out.2 ∧ Bd RX TX out.2 := by
  unfold fX8_find at h
  have hS : Sm RX M M := Sm.rf
  have z := oX8_find_L2 fu   fu a0 a1 a2 (0 : Int32) M hB ra0 ia1 h
  exact ⟨hS.tr z.1, z.2⟩
theorem oX8_placeOf (fu : Nat)   (a0 : Nat) (a1 : Int32)  (M : Mm) {out : Int32 × Mm} (hB : Bd RX TX M) (ra0 : RX a0) (h : fX8_placeOf fu  a0 a1 M = some out) : Sm RX M out.2 ∧ Bd RX TX out.2 := by
  unfold fX8_placeOf at h
  have hS : Sm RX M M := Sm.rf
  obtain ⟨v1, ev1, h⟩ := bd h
  have iv1 := gR_in hB (show 8 ≤ 11 from by decide) ev1
  obtain ⟨v3, M2, eM2, h⟩ := b2d h
  have w := oX11_four fu  v1 ((a1 * (64 : Int32)) + (48 : Int32)) M hB iv1 eM2
  have hS := hS.tr w.1
  have hB := w.2
  obtain rfl := Option.some.inj h
  exact ⟨hS, hB⟩
theorem oX8_sizeOf (fu : Nat)   (a0 : Nat) (a1 : Int32)  (M : Mm) {out : Int32 × Mm} (hB : Bd RX TX M) (ra0 : RX a0) (h : fX8_sizeOf fu  a0 a1 M = some out) : Sm RX M out.2 ∧ Bd RX TX out.2 := by
  unfold fX8_sizeOf at h
  have hS : Sm RX M M := Sm.rf
  obtain ⟨v1, ev1, h⟩ := bd h
  have iv1 := gR_in hB (show 8 ≤ 11 from by decide) ev1
  obtain ⟨v3, M2, eM2, h⟩ := b2d h
  have w := oX11_four fu  v1 (((a1 * (64 : Int32)) + (48 : Int32)) + (4 : Int32)) M hB iv1 eM2
  have hS := hS.tr w.1
  have hB := w.2
  obtain rfl := Option.some.inj h
  exact ⟨hS, hB⟩
theorem oX8_checkOf_L22 (fu : Nat) {out : Int32 × Mm}   : ∀ (n : Nat) (a0 : Nat) (a3 : Int32) (a4 : Int32) (a5 : Int32)  (M : Mm), Bd RX TX M → RX a0 → fX8_checkOf_L22 fu  n a0 a3 a4 a5 M = some out → Sm RX M out.2 ∧ Bd RX TX out.2 := by
  intro n
  induction n with
  | zero =>
    intro a0 a3 a4 a5 M hB ra0 h
    have h : (none : Option (Int32 × Mm)) = some out := h
    cases h
  | succ n ih =>
    intro a0 a3 a4 a5 M hB ra0 h
    rw [fX8_checkOf_L22] at h
    have hS : Sm RX M M := Sm.rf
    by_cases hc : a4 ≤ a5
    · have h := (if_pos hc).symm.trans h
      obtain rfl := Option.some.inj h
      exact ⟨hS, hB⟩
    · have h := (if_neg hc).symm.trans h
      obtain ⟨v1, ev1, h⟩ := bd h
      have iv1 := gR_in hB (show 8 ≤ 11 from by decide) ev1
      obtain ⟨v2, ev2, h⟩ := bd h
      obtain ⟨v3, ev3, h⟩ := bd h
      obtain ⟨v4, ev4, h⟩ := bd h
      obtain ⟨v5, ev5, h⟩ := bd h
      have z := ih a0 ((ushr v4 (4 : Int32)) ^^^ v5) a4 (a5 + (1 : Int32)) M hB ra0 h
      exact ⟨hS.tr z.1, z.2⟩
theorem oX8_checkOf (fu : Nat)   (a0 : Nat) (a1 : Int32) (a2 : Int32)  (M : Mm) {out : Int32 × Mm} (hB : Bd RX TX M) (ra0 : RX a0) (h : fX8_checkOf fu  a0 a1 a2 M = some out) : Sm RX M out.2 ∧ Bd RX TX out.2 := by
  unfold fX8_checkOf at h
  have hS : Sm RX M M := Sm.rf
  obtain ⟨v1, ev1, h⟩ := bd h
  have iv1 := gR_in hB (show 8 ≤ 11 from by decide) ev1
  obtain ⟨v2, ev2, h⟩ := bd h
  have z := oX8_checkOf_L22 fu   fu a0 (-1 : Int32) (jmin (a1 + a2) v2) (jmax a1 (0 : Int32)) M hB ra0 h
  exact ⟨hS.tr z.1, z.2⟩
theorem oX8_markOf (fu : Nat)   (a0 : Nat) (a1 : Int32)  (M : Mm) {out : Int32 × Mm} (hB : Bd RX TX M) (ra0 : RX a0) (h : fX8_markOf fu  a0 a1 M = some out) : Sm RX M out.2 ∧ Bd RX TX out.2 := by
  unfold fX8_markOf at h
  have hS : Sm RX M M := Sm.rf
  obtain ⟨v1, ev1, h⟩ := bd h
  have iv1 := gR_in hB (show 8 ≤ 11 from by decide) ev1
  obtain ⟨v3, M2, eM2, h⟩ := b2d h
  have w := oX11_four fu  v1 (((a1 * (64 : Int32)) + (48 : Int32)) + (8 : Int32)) M hB iv1 eM2
  have hS := hS.tr w.1
  have hB := w.2
  obtain rfl := Option.some.inj h
  exact ⟨hS, hB⟩
theorem oX8_isWhole (fu : Nat)   (a0 : Nat) (a1 : Int32)  (M : Mm) {out : Int32 × Mm} (hB : Bd RX TX M) (ra0 : RX a0) (h : fX8_isWhole fu  a0 a1 M = some out) : Sm RX M out.2 ∧ Bd RX TX out.2 := by
  unfold fX8_isWhole at h
  have hS : Sm RX M M := Sm.rf
  obtain ⟨q1, eq1, h⟩ := bd h
  have rq1 := rc_in hB (show 8 ≤ 11 from by decide) eq1
  obtain ⟨v3, M2, eM2, h⟩ := b2d h
  have w := oX8_placeOf fu q1 a1 M hB rq1 eM2
  have hS := hS.tr w.1
  have hB := w.2
  obtain ⟨q4, eq4, h⟩ := bd h
  have rq4 := rc_in hB (show 8 ≤ 11 from by decide) eq4
  obtain ⟨v6, M5, eM5, h⟩ := b2d h
  have w := oX8_sizeOf fu q4 a1 M2 hB rq4 eM5
  have hS := hS.tr w.1
  have hB := w.2
  obtain ⟨q7, eq7, h⟩ := bd h
  have rq7 := rc_in hB (show 8 ≤ 11 from by decide) eq7
  obtain ⟨v9, M8, eM8, h⟩ := b2d h
  have w := oX8_checkOf fu q7 v3 v6 M5 hB rq7 eM8
  have hS := hS.tr w.1
  have hB := w.2
  obtain ⟨q10, eq10, h⟩ := bd h
  have rq10 := rc_in hB (show 8 ≤ 11 from by decide) eq10
  obtain ⟨v12, M11, eM11, h⟩ := b2d h
  have w := oX8_markOf fu q10 a1 M8 hB rq10 eM11
  have hS := hS.tr w.1
  have hB := w.2
  by_cases hc : v9 = v12
  · have h := (if_pos hc).symm.trans h
    obtain ⟨hz, rfl⟩ := rN_some h
    exact ⟨hS, hB⟩
  · have h := (if_neg hc).symm.trans h
    obtain ⟨hz, rfl⟩ := rN_some h
    exact ⟨hS, hB⟩
theorem oX7_isMark_L83 (fu : Nat) {out : Int32 × Mm}   : ∀ (n : Nat) (a0 : Nat) (a1 : Int32) (a2 : Int32)  (M : Mm), Bd RX TX M → RX a0 → fX7_isMark_L83 fu  n a0 a1 a2 M = some out → Sm RX M out.2 ∧ Bd RX TX out.2 := by
  intro n
  induction n with
  | zero =>
    intro a0 a1 a2 M hB ra0 h
    have h : (none : Option (Int32 × Mm)) = some out := h
    cases h
  | succ n ih =>
    intro a0 a1 a2 M hB ra0 h
    rw [fX7_isMark_L83] at h
    have hS : Sm RX M M := Sm.rf
    by_cases hc : (8 : Int32) ≤ a2
    · have h := (if_pos hc).symm.trans h
      obtain ⟨hz, rfl⟩ := rN_some h
      exact ⟨hS, hB⟩
    · have h := (if_neg hc).symm.trans h
      obtain ⟨v1, ev1, h⟩ := bd h
      have iv1 := gR_in hB (show 7 ≤ 11 from by decide) ev1
      obtain ⟨v2, ev2, h⟩ := bd h
      obtain ⟨v4, M3, eM3, h⟩ := b2d h
      have w := oX11_one fu  v1 ((v2 + (1 : Int32)) + a2) M hB iv1 eM3
      have hS := hS.tr w.1
      have hB := w.2
      obtain ⟨v6, M5, eM5, h⟩ := b2d h
      have w := oX11_hexCode fu  (ushr a1 ((28 : Int32) - ((4 : Int32) * a2))) M3 hB  eM5
      have hS := hS.tr w.1
      have hB := w.2
      by_cases hc : v4 = v6
      · have h := (if_pos hc).symm.trans h
        have z := ih a0 a1 (a2 + (1 : Int32)) M5 hB ra0 h
        exact ⟨hS.tr z.1, z.2⟩
      · have h := (if_neg hc).symm.trans h
        obtain ⟨hz, rfl⟩ := rN_some h
        exact ⟨hS, hB⟩
theorem oX7_isMark (fu : Nat)   (a0 : Nat)  (M : Mm) {out : Int32 × Mm} (hB : Bd RX TX M) (ra0 : RX a0) (h : fX7_isMark fu  a0 M = some out) : Sm RX M out.2 ∧ Bd RX TX out.2 := by
  unfold fX7_isMark at h
  have hS : Sm RX M M := Sm.rf
  obtain ⟨v1, ev1, h⟩ := bd h
  obtain ⟨v2, ev2, h⟩ := bd h
  obtain ⟨q3, eq3, h⟩ := bd h
  have rq3 := rc_in hB (show 7 ≤ 11 from by decide) eq3
  obtain ⟨v5, M4, eM4, h⟩ := b2d h
  have w := oX7_isText fu q3 v1 v2 (some 13) M hB rq3 eM4
  have hS := hS.tr w.1
  have hB := w.2
  by_cases hc : v5 = 0
  · have h := (if_pos hc).symm.trans h
    obtain ⟨v6, ev6, h⟩ := bd h
    obtain ⟨v7, ev7, h⟩ := bd h
    by_cases hc : (v6 - v7) = (10 : Int32)
    · have h := (if_pos hc).symm.trans h
      obtain ⟨v8, ev8, h⟩ := bd h
      have iv8 := gR_in hB (show 7 ≤ 11 from by decide) ev8
      obtain ⟨v9, ev9, h⟩ := bd h
      obtain ⟨v11, M10, eM10, h⟩ := b2d h
      have w := oX11_one fu  v8 v9 M4 hB iv8 eM10
      have hS := hS.tr w.1
      have hB := w.2
      by_cases hc : v11 = (34 : Int32)
      · have h := (if_pos hc).symm.trans h
        obtain ⟨v12, ev12, h⟩ := bd h
        have iv12 := gR_in hB (show 7 ≤ 11 from by decide) ev12
        obtain ⟨v13, ev13, h⟩ := bd h
        obtain ⟨v15, M14, eM14, h⟩ := b2d h
        have w := oX11_one fu  v12 (v13 - (1 : Int32)) M10 hB iv12 eM14
        have hS := hS.tr w.1
        have hB := w.2
        by_cases hc : v15 = (34 : Int32)
        · have h := (if_pos hc).symm.trans h
          obtain ⟨v16, ev16, h⟩ := bd h
          have iv16 := gR_in hB (show 7 ≤ 11 from by decide) ev16
          obtain ⟨v17, ev17, h⟩ := bd h
          obtain ⟨q18, eq18, h⟩ := bd h
          have rq18 := rc_in hB (show 8 ≤ 11 from by decide) eq18
          obtain ⟨v20, M19, eM19, h⟩ := b2d h
          have w := oX8_markOf fu q18 v17 M14 hB rq18 eM19
          have hS := hS.tr w.1
          have hB := w.2
          have z := oX7_isMark_L83 fu   fu a0 v20 (0 : Int32) M19 hB ra0 h
          exact ⟨hS.tr z.1, z.2⟩
        · have h := (if_neg hc).symm.trans h
          obtain ⟨hz, rfl⟩ := rN_some h
          exact ⟨hS, hB⟩
      · have h := (if_neg hc).symm.trans h
        obtain ⟨hz, rfl⟩ := rN_some h
        exact ⟨hS, hB⟩
    · have h := (if_neg hc).symm.trans h
      obtain ⟨hz, rfl⟩ := rN_some h
      exact ⟨hS, hB⟩
  · have h := (if_neg hc).symm.trans h
    obtain ⟨hz, rfl⟩ := rN_some h
    exact ⟨hS, hB⟩
theorem oX7_verdict_L125 (fu : Nat)   (a0 : Nat) (s0 : Option Nat) (s1 : Int32) (M : Mm) {out : Int32 × Mm} (hB : Bd RX TX M) (ra0 : RX a0) (is0 : inR RX s0) (h : fX7_verdict_L125 fu  a0 s0 s1 M = some out) : Sm RX M out.2 ∧ Bd RX TX out.2 := by
  unfold fX7_verdict_L125 at h
  have hS : Sm RX M M := Sm.rf
  obtain ⟨M1, eM1, h⟩ := bd h
  have w := pF_own hB (show 7 ≤ 11 from by decide) eM1
  have hS := hS.tr w.1
  have hB := w.2
  obtain ⟨v2, ev2, h⟩ := bd h
  by_cases hc : 0 ≤ v2
  · have h := (if_pos hc).symm.trans h
    obtain ⟨v3, ev3, h⟩ := bd h
    have iv3 := gR_in hB (show 7 ≤ 11 from by decide) ev3
    obtain ⟨v4, ev4, h⟩ := bd h
    obtain ⟨q5, eq5, h⟩ := bd h
    have rq5 := rc_in hB (show 8 ≤ 11 from by decide) eq5
    obtain ⟨v7, M6, eM6, h⟩ := b2d h
    have w := oX8_isWhole fu q5 v4 M1 hB rq5 eM6
    have hS := hS.tr w.1
    have hB := w.2
    by_cases hc : v7 = 0
    · have h := (if_pos hc).symm.trans h
      obtain rfl := Option.some.inj h
      exact ⟨hS, hB⟩
    · have h := (if_neg hc).symm.trans h
      obtain ⟨v8, ev8, h⟩ := bd h
      by_cases hc : v8 = (1 : Int32)
      · have h := (if_pos hc).symm.trans h
        obtain ⟨q9, eq9, h⟩ := bd h
        have rq9 := rc_in hB (show 7 ≤ 11 from by decide) eq9
        obtain ⟨v11, M10, eM10, h⟩ := b2d h
        have w := oX7_isMark fu q9  M6 hB rq9 eM10
        have hS := hS.tr w.1
        have hB := w.2
        by_cases hc : v11 = 0
        · have h := (if_pos hc).symm.trans h
          obtain rfl := Option.some.inj h
          exact ⟨hS, hB⟩
        · have h := (if_neg hc).symm.trans h
          obtain rfl := Option.some.inj h
          exact ⟨hS, hB⟩
      · have h := (if_neg hc).symm.trans h
        obtain rfl := Option.some.inj h
        exact ⟨hS, hB⟩
  · have h := (if_neg hc).symm.trans h
    obtain rfl := Option.some.inj h
    exact ⟨hS, hB⟩
theorem oX7_verdict_L30 (fu : Nat)   (a0 : Nat)  (M : Mm) {out : Int32 × Mm} (hB : Bd RX TX M) (ra0 : RX a0) (h : fX7_verdict_L30 fu  a0 M = some out) : Sm RX M out.2 ∧ Bd RX TX out.2 := by
  unfold fX7_verdict_L30 at h
  have hS : Sm RX M M := Sm.rf
  obtain ⟨v1, ev1, h⟩ := bd h
  by_cases hc : v1 ≤ 0
  · have h := (if_pos hc).symm.trans h
    obtain ⟨v2, ev2, h⟩ := bd h
    by_cases hc : (1 : Int32) < v2
    · have h := (if_pos hc).symm.trans h
      obtain rfl := Option.some.inj h
      exact ⟨hS, hB⟩
    · have h := (if_neg hc).symm.trans h
      obtain ⟨v3, ev3, h⟩ := bd h
      by_cases hc : 0 ≤ v3
      · have h := (if_pos hc).symm.trans h
        obtain ⟨v4, ev4, h⟩ := bd h
        by_cases hc : v4 ≤ (65536 : Int32)
        · have h := (if_pos hc).symm.trans h
          obtain ⟨v5, ev5, h⟩ := bd h
          by_cases hc : v5 = (2 : Int32)
          · have h := (if_pos hc).symm.trans h
            obtain rfl := Option.some.inj h
            exact ⟨hS, hB⟩
          · have h := (if_neg hc).symm.trans h
            obtain ⟨q6, eq6, h⟩ := bd h
            have rq6 := rc_in hB (show 7 ≤ 11 from by decide) eq6
            obtain ⟨v8, M7, eM7, h⟩ := b2d h
            have w := oX7_readPath fu q6  M hB rq6 eM7
            have hS := hS.tr w.1
            have hB := w.2
            by_cases hc : v8 = 0
            · have h := (if_pos hc).symm.trans h
              obtain rfl := Option.some.inj h
              exact ⟨hS, hB⟩
            · have h := (if_neg hc).symm.trans h
              obtain ⟨v9, ev9, h⟩ := bd h
              by_cases hc : v9 ≤ (47 : Int32)
              · have h := (if_pos hc).symm.trans h
                obtain ⟨v10, ev10, h⟩ := bd h
                have iv10 := gR_in hB (show 7 ≤ 11 from by decide) ev10
                obtain ⟨v11, ev11, h⟩ := bd h
                have iv11 := gR_in hB (show 7 ≤ 11 from by decide) ev11
                obtain ⟨v12, ev12, h⟩ := bd h
                obtain ⟨q13, eq13, h⟩ := bd h
                have rq13 := rc_in hB (show 8 ≤ 11 from by decide) eq13
                obtain ⟨v15, M14, eM14, h⟩ := b2d h
                have w := oX8_find fu q13 v11 v12 M7 hB rq13 iv11 eM14
                have hS := hS.tr w.1
                have hB := w.2
                have z := oX7_verdict_L125 fu   a0 (some a0) v15 M14 hB ra0 (inR_some ra0) h
                exact ⟨hS.tr z.1, z.2⟩
              · have h := (if_neg hc).symm.trans h
                have z := oX7_verdict_L125 fu   a0 (some a0) (-1 : Int32) M7 hB ra0 (inR_some ra0) h
                exact ⟨hS.tr z.1, z.2⟩
        · have h := (if_neg hc).symm.trans h
          obtain rfl := Option.some.inj h
          exact ⟨hS, hB⟩
      · have h := (if_neg hc).symm.trans h
        obtain rfl := Option.some.inj h
        exact ⟨hS, hB⟩
  · have h := (if_neg hc).symm.trans h
    obtain rfl := Option.some.inj h
    exact ⟨hS, hB⟩
theorem oX7_verdict (fu : Nat)   (a0 : Nat)  (M : Mm) {out : Int32 × Mm} (hB : Bd RX TX M) (ra0 : RX a0) (h : fX7_verdict fu  a0 M = some out) : Sm RX M out.2 ∧ Bd RX TX out.2 := by
  unfold fX7_verdict at h
  have hS : Sm RX M M := Sm.rf
  obtain ⟨v1, ev1, h⟩ := bd h
  by_cases hc : v1 = 0
  · have h := (if_pos hc).symm.trans h
    obtain ⟨v2, ev2, h⟩ := bd h
    by_cases hc : v2 = (1 : Int32)
    · have h := (if_pos hc).symm.trans h
      have z := oX7_verdict_L30 fu   a0 M hB ra0 h
      exact ⟨hS.tr z.1, z.2⟩
    · have h := (if_neg hc).symm.trans h
      obtain rfl := Option.some.inj h
      exact ⟨hS, hB⟩
  · have h := (if_neg hc).symm.trans h
    obtain ⟨v3, ev3, h⟩ := bd h
    by_cases hc : v3 ≤ (1 : Int32)
    · have h := (if_pos hc).symm.trans h
      have z := oX7_verdict_L30 fu   a0 M hB ra0 h
      exact ⟨hS.tr z.1, z.2⟩
    · have h := (if_neg hc).symm.trans h
      obtain rfl := Option.some.inj h
      exact ⟨hS, hB⟩
theorem oX7_readHead_L90 (fu : Nat)   (a0 : Nat)  (M : Mm) {out : Int32 × Mm} (hB : Bd RX TX M) (ra0 : RX a0) (h : fX7_readHead_L90 fu  a0 M = some out) : Sm RX M out.2 ∧ Bd RX TX out.2 := by
  unfold fX7_readHead_L90 at h
  have hS : Sm RX M M := Sm.rf
  obtain ⟨q1, eq1, h⟩ := bd h
  have rq1 := rc_in hB (show 7 ≤ 11 from by decide) eq1
  obtain ⟨v3, M2, eM2, h⟩ := b2d h
  have w := oX7_verdict fu q1  M hB rq1 eM2
  have hS := hS.tr w.1
  have hB := w.2
  obtain rfl := Option.some.inj h
  exact ⟨hS, hB⟩
theorem oX7_readHead_L84 (fu : Nat) {out : Int32 × Mm} (k8 : Nat → Int32 → Int32 → Int32 → Mm → Option (Int32 × Mm)) (hk8 : ∀ (b0 : Nat) (b1 : Int32) (b2 : Int32) (b3 : Int32)  (M : Mm), Bd RX TX M → RX b0 → k8 b0 b1 b2 b3 M = some out → Sm RX M out.2 ∧ Bd RX TX out.2) (a0 : Nat) (a1 : Int32) (a2 : Int32) (a3 : Int32)  (M : Mm) (hB : Bd RX TX M) (ra0 : RX a0) (h : fX7_readHead_L84 fu k8 a0 a1 a2 a3 M = some out) : Sm RX M out.2 ∧ Bd RX TX out.2 := by
  unfold fX7_readHead_L84 at h
  have hS : Sm RX M M := Sm.rf
  have z := hk8 a0 a1 a2 (a3 + (1 : Int32)) M hB ra0 h
  exact ⟨hS.tr z.1, z.2⟩
theorem oX7_readHead_L80 (fu : Nat) {out : Int32 × Mm} (k8 : Nat → Int32 → Int32 → Int32 → Mm → Option (Int32 × Mm)) (hk8 : ∀ (b0 : Nat) (b1 : Int32) (b2 : Int32) (b3 : Int32)  (M : Mm), Bd RX TX M → RX b0 → k8 b0 b1 b2 b3 M = some out → Sm RX M out.2 ∧ Bd RX TX out.2) (a0 : Nat) (a1 : Int32) (a3 : Int32)  (M : Mm) (hB : Bd RX TX M) (ra0 : RX a0) (h : fX7_readHead_L80 fu k8 a0 a1 a3 M = some out) : Sm RX M out.2 ∧ Bd RX TX out.2 := by
  unfold fX7_readHead_L80 at h
  have hS : Sm RX M M := Sm.rf
  have z := oX7_readHead_L84 fu k8 hk8 a0 a1 (a3 + (1 : Int32)) a3 M hB ra0 h
  exact ⟨hS.tr z.1, z.2⟩
theorem oX7_readHead_L8 (fu : Nat) {out : Int32 × Mm}   : ∀ (n : Nat) (a0 : Nat) (a1 : Int32) (a2 : Int32) (a3 : Int32)  (M : Mm), Bd RX TX M → RX a0 → fX7_readHead_L8 fu  n a0 a1 a2 a3 M = some out → Sm RX M out.2 ∧ Bd RX TX out.2 := by
  intro n
  induction n with
  | zero =>
    intro a0 a1 a2 a3 M hB ra0 h
    have h : (none : Option (Int32 × Mm)) = some out := h
    cases h
  | succ n ih =>
    intro a0 a1 a2 a3 M hB ra0 h
    rw [fX7_readHead_L8] at h
    have hS : Sm RX M M := Sm.rf
    by_cases hc : a1 ≤ a3
    · have h := (if_pos hc).symm.trans h
      have z := oX7_readHead_L90 fu   a0 M hB ra0 h
      exact ⟨hS.tr z.1, z.2⟩
    · have h := (if_neg hc).symm.trans h
      obtain ⟨v1, ev1, h⟩ := bd h
      have iv1 := gR_in hB (show 7 ≤ 11 from by decide) ev1
      obtain ⟨v2, ev2, h⟩ := bd h
      by_cases hc : v2 ≤ a3
      · have h := (if_pos hc).symm.trans h
        have z := oX7_readHead_L90 fu   a0 M hB ra0 h
        exact ⟨hS.tr z.1, z.2⟩
      · have h := (if_neg hc).symm.trans h
        obtain ⟨v3, ev3, h⟩ := bd h
        have iv3 := gR_in hB (show 7 ≤ 11 from by decide) ev3
        obtain ⟨v4, ev4, h⟩ := bd h
        by_cases hc : v4 = (10 : Int32)
        · have h := (if_pos hc).symm.trans h
          obtain ⟨q5, eq5, h⟩ := bd h
          have rq5 := rc_in hB (show 7 ≤ 11 from by decide) eq5
          obtain ⟨v7, M6, eM6, h⟩ := b2d h
          have w := oX7_lineEnd fu q5 a2 a3 M hB rq5 eM6
          have hS := hS.tr w.1
          have hB := w.2
          by_cases hc : v7 ≤ a2
          · have h := (if_pos hc).symm.trans h
            have z := oX7_readHead_L80 fu (fun b0 b1 b2 b3 M => fX7_readHead_L8 fu  n b0 b1 b2 b3 M) ih a0 a1 a3 M6 hB ra0 h
            exact ⟨hS.tr z.1, z.2⟩
          · have h := (if_neg hc).symm.trans h
            by_cases hc : a2 = 0
            · have h := (if_pos hc).symm.trans h
              obtain ⟨q11, eq11, h⟩ := bd h
              have rq11 := rc_in hB (show 7 ≤ 11 from by decide) eq11
              obtain ⟨v13, M12, eM12, h⟩ := b2d h
              have w := oX7_readRequestLine fu q11 v7 M6 hB rq11 eM12
              have hS := hS.tr w.1
              have hB := w.2
              by_cases hc : v13 = 0
              · have h := (if_pos hc).symm.trans h
                obtain rfl := Option.some.inj h
                exact ⟨hS, hB⟩
              · have h := (if_neg hc).symm.trans h
                have z := oX7_readHead_L80 fu (fun b0 b1 b2 b3 M => fX7_readHead_L8 fu  n b0 b1 b2 b3 M) ih a0 a1 a3 M12 hB ra0 h
                exact ⟨hS.tr z.1, z.2⟩
            · have h := (if_neg hc).symm.trans h
              obtain ⟨q8, eq8, h⟩ := bd h
              have rq8 := rc_in hB (show 7 ≤ 11 from by decide) eq8
              obtain ⟨v10, M9, eM9, h⟩ := b2d h
              have w := oX7_readField fu q8 a2 v7 M6 hB rq8 eM9
              have hS := hS.tr w.1
              have hB := w.2
              by_cases hc : v10 = 0
              · have h := (if_pos hc).symm.trans h
                obtain rfl := Option.some.inj h
                exact ⟨hS, hB⟩
              · have h := (if_neg hc).symm.trans h
                have z := oX7_readHead_L80 fu (fun b0 b1 b2 b3 M => fX7_readHead_L8 fu  n b0 b1 b2 b3 M) ih a0 a1 a3 M9 hB ra0 h
                exact ⟨hS.tr z.1, z.2⟩
        · have h := (if_neg hc).symm.trans h
          have z := oX7_readHead_L84 fu (fun b0 b1 b2 b3 M => fX7_readHead_L8 fu  n b0 b1 b2 b3 M) ih a0 a1 a2 a3 M hB ra0 h
          exact ⟨hS.tr z.1, z.2⟩
theorem oX7_readHead (fu : Nat)   (a0 : Nat) (a1 : Int32)  (M : Mm) {out : Int32 × Mm} (hB : Bd RX TX M) (ra0 : RX a0) (h : fX7_readHead fu  a0 a1 M = some out) : Sm RX M out.2 ∧ Bd RX TX out.2 := by
  unfold fX7_readHead at h
  have hS : Sm RX M M := Sm.rf
  obtain ⟨q1, eq1, h⟩ := bd h
  have rq1 := rc_in hB (show 7 ≤ 11 from by decide) eq1
  obtain ⟨M2, eM2, h⟩ := bd h
  have w := oX7_forget fu q1  M hB rq1 eM2
  have hS := hS.tr w.1
  have hB := w.2
  have z := oX7_readHead_L8 fu   fu a0 a1 (0 : Int32) (0 : Int32) M2 hB ra0 h
  exact ⟨hS.tr z.1, z.2⟩
theorem oX7_isPersistent (fu : Nat)   (a0 : Nat)  (M : Mm) {out : Int32 × Mm} (hB : Bd RX TX M) (ra0 : RX a0) (h : fX7_isPersistent fu  a0 M = some out) : Sm RX M out.2 ∧ Bd RX TX out.2 := by
  unfold fX7_isPersistent at h
  have hS : Sm RX M M := Sm.rf
  obtain ⟨v1, ev1, h⟩ := bd h
  by_cases hc : v1 = 0
  · have h := (if_pos hc).symm.trans h
    obtain ⟨v2, ev2, h⟩ := bd h
    by_cases hc : v2 = 0
    · have h := (if_pos hc).symm.trans h
      obtain ⟨v3, ev3, h⟩ := bd h
      by_cases hc : v3 = 0
      · have h := (if_pos hc).symm.trans h
        obtain ⟨hz, rfl⟩ := rN_some h
        exact ⟨hS, hB⟩
      · have h := (if_neg hc).symm.trans h
        obtain ⟨hz, rfl⟩ := rN_some h
        exact ⟨hS, hB⟩
    · have h := (if_neg hc).symm.trans h
      obtain ⟨hz, rfl⟩ := rN_some h
      exact ⟨hS, hB⟩
  · have h := (if_neg hc).symm.trans h
    obtain ⟨hz, rfl⟩ := rN_some h
    exact ⟨hS, hB⟩
theorem oX7_isBodyLeftOut (fu : Nat)   (a0 : Int32)  (M : Mm) {out : Int32 × Mm} (hB : Bd RX TX M)  (h : fX7_isBodyLeftOut fu  a0 M = some out) : Sm RX M out.2 ∧ Bd RX TX out.2 := by
  unfold fX7_isBodyLeftOut at h
  have hS : Sm RX M M := Sm.rf
  by_cases hc : a0 = (400 : Int32)
  · have h := (if_pos hc).symm.trans h
    obtain ⟨hz, rfl⟩ := rN_some h
    exact ⟨hS, hB⟩
  · have h := (if_neg hc).symm.trans h
    by_cases hc : a0 = (413 : Int32)
    · have h := (if_pos hc).symm.trans h
      obtain ⟨hz, rfl⟩ := rN_some h
      exact ⟨hS, hB⟩
    · have h := (if_neg hc).symm.trans h
      by_cases hc : a0 = (431 : Int32)
      · have h := (if_pos hc).symm.trans h
        obtain ⟨hz, rfl⟩ := rN_some h
        exact ⟨hS, hB⟩
      · have h := (if_neg hc).symm.trans h
        by_cases hc : a0 = (501 : Int32)
        · have h := (if_pos hc).symm.trans h
          obtain ⟨hz, rfl⟩ := rN_some h
          exact ⟨hS, hB⟩
        · have h := (if_neg hc).symm.trans h
          obtain ⟨hz, rfl⟩ := rN_some h
          exact ⟨hS, hB⟩
theorem oX7_phrase (fu : Nat)   (a0 : Int32)  (M : Mm) {out : Option Nat × Mm} (hB : Bd RX TX M)  (h : fX7_phrase fu  a0 M = some out) : Sm RX M out.2 ∧ Bd RX TX out.2 := by
  unfold fX7_phrase at h
  have hS : Sm RX M M := Sm.rf
  by_cases hc0 : a0 = (200 : Int32)
  · have h := (if_pos hc0).symm.trans h
    obtain rfl := Option.some.inj h
    exact ⟨hS, hB⟩
  have h := (if_neg hc0).symm.trans h
  by_cases hc1 : a0 = (304 : Int32)
  · have h := (if_pos hc1).symm.trans h
    obtain rfl := Option.some.inj h
    exact ⟨hS, hB⟩
  have h := (if_neg hc1).symm.trans h
  by_cases hc2 : a0 = (400 : Int32)
  · have h := (if_pos hc2).symm.trans h
    obtain rfl := Option.some.inj h
    exact ⟨hS, hB⟩
  have h := (if_neg hc2).symm.trans h
  by_cases hc3 : a0 = (404 : Int32)
  · have h := (if_pos hc3).symm.trans h
    obtain rfl := Option.some.inj h
    exact ⟨hS, hB⟩
  have h := (if_neg hc3).symm.trans h
  by_cases hc4 : a0 = (405 : Int32)
  · have h := (if_pos hc4).symm.trans h
    obtain rfl := Option.some.inj h
    exact ⟨hS, hB⟩
  have h := (if_neg hc4).symm.trans h
  by_cases hc5 : a0 = (413 : Int32)
  · have h := (if_pos hc5).symm.trans h
    obtain rfl := Option.some.inj h
    exact ⟨hS, hB⟩
  have h := (if_neg hc5).symm.trans h
  by_cases hc6 : a0 = (431 : Int32)
  · have h := (if_pos hc6).symm.trans h
    obtain rfl := Option.some.inj h
    exact ⟨hS, hB⟩
  have h := (if_neg hc6).symm.trans h
  by_cases hc7 : a0 = (500 : Int32)
  · have h := (if_pos hc7).symm.trans h
    obtain rfl := Option.some.inj h
    exact ⟨hS, hB⟩
  have h := (if_neg hc7).symm.trans h
  obtain rfl := Option.some.inj h
  exact ⟨hS, hB⟩
theorem oX7_pathEndsWith_L18 (fu : Nat) {out : Int32 × Mm}   : ∀ (n : Nat) (a0 : Nat) (a1 : Option Nat) (a2 : Int32) (a3 : Int32)  (M : Mm), Bd RX TX M → RX a0 → fX7_pathEndsWith_L18 fu  n a0 a1 a2 a3 M = some out → Sm RX M out.2 ∧ Bd RX TX out.2 := by
  intro n
  induction n with
  | zero =>
    intro a0 a1 a2 a3 M hB ra0 h
    have h : (none : Option (Int32 × Mm)) = some out := h
    cases h
  | succ n ih =>
    intro a0 a1 a2 a3 M hB ra0 h
    rw [fX7_pathEndsWith_L18] at h
    have hS : Sm RX M M := Sm.rf
    obtain ⟨q1, eq1, h⟩ := bd h
    obtain ⟨v3, M2, eM2, h⟩ := b2d h
    have w := oJ0_length_8abf5 fu q1  M hB  eM2
    have hS := hS.tr w.1
    have hB := w.2
    by_cases hc : v3 ≤ a3
    · have h := (if_pos hc).symm.trans h
      obtain ⟨hz, rfl⟩ := rN_some h
      exact ⟨hS, hB⟩
    · have h := (if_neg hc).symm.trans h
      obtain ⟨v4, ev4, h⟩ := bd h
      have iv4 := gR_in hB (show 7 ≤ 11 from by decide) ev4
      obtain ⟨v6, M5, eM5, h⟩ := b2d h
      have w := oX11_one fu  v4 (a2 + a3) M2 hB iv4 eM5
      have hS := hS.tr w.1
      have hB := w.2
      obtain ⟨q7, eq7, h⟩ := bd h
      obtain ⟨v9, M8, eM8, h⟩ := b2d h
      have w := oJ0_charAt_5068e fu q7 a3 M5 hB  eM8
      have hS := hS.tr w.1
      have hB := w.2
      by_cases hc : v6 = v9
      · have h := (if_pos hc).symm.trans h
        have z := ih a0 a1 a2 (a3 + (1 : Int32)) M8 hB ra0 h
        exact ⟨hS.tr z.1, z.2⟩
      · have h := (if_neg hc).symm.trans h
        obtain ⟨hz, rfl⟩ := rN_some h
        exact ⟨hS, hB⟩
theorem oX7_pathEndsWith (fu : Nat)   (a0 : Nat) (a1 : Option Nat)  (M : Mm) {out : Int32 × Mm} (hB : Bd RX TX M) (ra0 : RX a0) (h : fX7_pathEndsWith fu  a0 a1 M = some out) : Sm RX M out.2 ∧ Bd RX TX out.2 := by
  unfold fX7_pathEndsWith at h
  have hS : Sm RX M M := Sm.rf
  obtain ⟨v1, ev1, h⟩ := bd h
  obtain ⟨q2, eq2, h⟩ := bd h
  obtain ⟨v4, M3, eM3, h⟩ := b2d h
  have w := oJ0_length_8abf5 fu q2  M hB  eM3
  have hS := hS.tr w.1
  have hB := w.2
  by_cases hc : 0 ≤ (v1 - v4)
  · have h := (if_pos hc).symm.trans h
    have z := oX7_pathEndsWith_L18 fu   fu a0 a1 (v1 - v4) (0 : Int32) M3 hB ra0 h
    exact ⟨hS.tr z.1, z.2⟩
  · have h := (if_neg hc).symm.trans h
    obtain ⟨hz, rfl⟩ := rN_some h
    exact ⟨hS, hB⟩
theorem oX7_contentType (fu : Nat)   (a0 : Nat)  (M : Mm) {out : Option Nat × Mm} (hB : Bd RX TX M) (ra0 : RX a0) (h : fX7_contentType fu  a0 M = some out) : Sm RX M out.2 ∧ Bd RX TX out.2 := by
  unfold fX7_contentType at h
  have hS : Sm RX M M := Sm.rf
  obtain ⟨q1, eq1, h⟩ := bd h
  have rq1 := rc_in hB (show 7 ≤ 11 from by decide) eq1
  obtain ⟨v3, M2, eM2, h⟩ := b2d h
  have w := oX7_pathEndsWith fu q1 (some 27) M hB rq1 eM2
  have hS := hS.tr w.1
  have hB := w.2
  by_cases hc : v3 = 0
  · have h := (if_pos hc).symm.trans h
    obtain ⟨q4, eq4, h⟩ := bd h
    have rq4 := rc_in hB (show 7 ≤ 11 from by decide) eq4
    obtain ⟨v6, M5, eM5, h⟩ := b2d h
    have w := oX7_pathEndsWith fu q4 (some 29) M2 hB rq4 eM5
    have hS := hS.tr w.1
    have hB := w.2
    by_cases hc : v6 = 0
    · have h := (if_pos hc).symm.trans h
      obtain ⟨q7, eq7, h⟩ := bd h
      have rq7 := rc_in hB (show 7 ≤ 11 from by decide) eq7
      obtain ⟨v9, M8, eM8, h⟩ := b2d h
      have w := oX7_pathEndsWith fu q7 (some 31) M5 hB rq7 eM8
      have hS := hS.tr w.1
      have hB := w.2
      by_cases hc : v9 = 0
      · have h := (if_pos hc).symm.trans h
        obtain ⟨q10, eq10, h⟩ := bd h
        have rq10 := rc_in hB (show 7 ≤ 11 from by decide) eq10
        obtain ⟨v12, M11, eM11, h⟩ := b2d h
        have w := oX7_pathEndsWith fu q10 (some 33) M8 hB rq10 eM11
        have hS := hS.tr w.1
        have hB := w.2
        by_cases hc : v12 = 0
        · have h := (if_pos hc).symm.trans h
          obtain ⟨q13, eq13, h⟩ := bd h
          have rq13 := rc_in hB (show 7 ≤ 11 from by decide) eq13
          obtain ⟨v15, M14, eM14, h⟩ := b2d h
          have w := oX7_pathEndsWith fu q13 (some 35) M11 hB rq13 eM14
          have hS := hS.tr w.1
          have hB := w.2
          by_cases hc : v15 = 0
          · have h := (if_pos hc).symm.trans h
            obtain rfl := Option.some.inj h
            exact ⟨hS, hB⟩
          · have h := (if_neg hc).symm.trans h
            obtain rfl := Option.some.inj h
            exact ⟨hS, hB⟩
        · have h := (if_neg hc).symm.trans h
          obtain rfl := Option.some.inj h
          exact ⟨hS, hB⟩
      · have h := (if_neg hc).symm.trans h
        obtain rfl := Option.some.inj h
        exact ⟨hS, hB⟩
    · have h := (if_neg hc).symm.trans h
      obtain rfl := Option.some.inj h
      exact ⟨hS, hB⟩
  · have h := (if_neg hc).symm.trans h
    obtain rfl := Option.some.inj h
    exact ⟨hS, hB⟩
theorem oX7_giveBody (fu : Nat)   (a0 : Nat) (a1 : Option Nat) (a2 : Int32) (a3 : Int32)  (M : Mm) {out : Mm} (hB : Bd RX TX M) (ra0 : RX a0) (ia1 : inR RX a1) (h : fX7_giveBody fu  a0 a1 a2 a3 M = some out) : Sm RX M out ∧ Bd RX TX out := by
  unfold fX7_giveBody at h
  have hS : Sm RX M M := Sm.rf
  by_cases hc : a2 = (200 : Int32)
  · have h := (if_pos hc).symm.trans h
    obtain ⟨v11, ev11, h⟩ := bd h
    have iv11 := gR_in hB (show 7 ≤ 11 from by decide) ev11
    obtain ⟨v12, ev12, h⟩ := bd h
    obtain ⟨q13, eq13, h⟩ := bd h
    have rq13 := rc_in hB (show 8 ≤ 11 from by decide) eq13
    obtain ⟨v15, M14, eM14, h⟩ := b2d h
    have w := oX8_placeOf fu q13 v12 M hB rq13 eM14
    have hS := hS.tr w.1
    have hB := w.2
    obtain ⟨M16, eM16, h⟩ := bd h
    have w := pF_own hB (show 1 ≤ 11 from by decide) eM16
    have hS := hS.tr w.1
    have hB := w.2
    obtain ⟨M17, eM17, h⟩ := bd h
    have w := pF_own hB (show 1 ≤ 11 from by decide) eM17
    have hS := hS.tr w.1
    have hB := w.2
    obtain rfl := Option.some.inj h
    exact ⟨hS, hB⟩
  · have h := (if_neg hc).symm.trans h
    obtain ⟨q1, eq1, h⟩ := bd h
    have rq1 := rc_in hB (show 1 ≤ 11 from by decide) eq1
    obtain ⟨M2, eM2, h⟩ := bd h
    have w := oX1_writeNumber fu q1 a2 M hB rq1 eM2
    have hS := hS.tr w.1
    have hB := w.2
    obtain ⟨q3, eq3, h⟩ := bd h
    have rq3 := rc_in hB (show 1 ≤ 11 from by decide) eq3
    obtain ⟨M4, eM4, h⟩ := bd h
    have w := oX1_write fu q3 (some 24) M2 hB rq3 eM4
    have hS := hS.tr w.1
    have hB := w.2
    obtain ⟨v6, M5, eM5, h⟩ := b2d h
    have w := oX7_phrase fu  a2 M4 hB  eM5
    have hS := hS.tr w.1
    have hB := w.2
    obtain ⟨q7, eq7, h⟩ := bd h
    have rq7 := rc_in hB (show 1 ≤ 11 from by decide) eq7
    obtain ⟨M8, eM8, h⟩ := bd h
    have w := oX1_write fu q7 v6 M5 hB rq7 eM8
    have hS := hS.tr w.1
    have hB := w.2
    obtain ⟨q9, eq9, h⟩ := bd h
    have rq9 := rc_in hB (show 1 ≤ 11 from by decide) eq9
    obtain ⟨M10, eM10, h⟩ := bd h
    have w := oX1_write fu q9 (some 42) M8 hB rq9 eM10
    have hS := hS.tr w.1
    have hB := w.2
    obtain rfl := Option.some.inj h
    exact ⟨hS, hB⟩
theorem oX7_give_L229 (fu : Nat)   (a0 : Nat) (a1 : Option Nat) (a2 : Int32) (a5 : Int32)  (M : Mm) {out : Mm} (hB : Bd RX TX M) (ra0 : RX a0) (ia1 : inR RX a1) (h : fX7_give_L229 fu  a0 a1 a2 a5 M = some out) : Sm RX M out ∧ Bd RX TX out := by
  unfold fX7_give_L229 at h
  have hS : Sm RX M M := Sm.rf
  obtain ⟨q1, eq1, h⟩ := bd h
  have rq1 := rc_in hB (show 1 ≤ 11 from by decide) eq1
  obtain ⟨M2, eM2, h⟩ := bd h
  have w := oX1_write fu q1 (some 41) M hB rq1 eM2
  have hS := hS.tr w.1
  have hB := w.2
  by_cases hc : a2 = (304 : Int32)
  · have h := (if_pos hc).symm.trans h
    obtain rfl := Option.some.inj h
    exact ⟨hS, hB⟩
  · have h := (if_neg hc).symm.trans h
    obtain ⟨v3, ev3, h⟩ := bd h
    by_cases hc : v3 = (1 : Int32)
    · have h := (if_pos hc).symm.trans h
      obtain rfl := Option.some.inj h
      exact ⟨hS, hB⟩
    · have h := (if_neg hc).symm.trans h
      obtain ⟨q4, eq4, h⟩ := bd h
      have rq4 := rc_in hB (show 7 ≤ 11 from by decide) eq4
      obtain ⟨M5, eM5, h⟩ := bd h
      have w := oX7_giveBody fu q4 a1 a2 a5 M2 hB rq4 ia1 eM5
      have hS := hS.tr w.1
      have hB := w.2
      obtain rfl := Option.some.inj h
      exact ⟨hS, hB⟩
theorem oX7_give_L215 (fu : Nat)   (a0 : Nat) (a1 : Option Nat) (a2 : Int32) (a5 : Int32)  (M : Mm) {out : Mm} (hB : Bd RX TX M) (ra0 : RX a0) (ia1 : inR RX a1) (h : fX7_give_L215 fu  a0 a1 a2 a5 M = some out) : Sm RX M out ∧ Bd RX TX out := by
  unfold fX7_give_L215 at h
  have hS : Sm RX M M := Sm.rf
  obtain ⟨v1, ev1, h⟩ := bd h
  by_cases hc : v1 = 0
  · have h := (if_pos hc).symm.trans h
    have z := oX7_give_L229 fu   a0 a1 a2 a5 M hB ra0 ia1 h
    exact ⟨hS.tr z.1, z.2⟩
  · have h := (if_neg hc).symm.trans h
    obtain ⟨q2, eq2, h⟩ := bd h
    have rq2 := rc_in hB (show 1 ≤ 11 from by decide) eq2
    obtain ⟨M3, eM3, h⟩ := bd h
    have w := oX1_write fu q2 (some 40) M hB rq2 eM3
    have hS := hS.tr w.1
    have hB := w.2
    have z := oX7_give_L229 fu   a0 a1 a2 a5 M3 hB ra0 ia1 h
    exact ⟨hS.tr z.1, z.2⟩
theorem oX7_give_L201 (fu : Nat)   (a0 : Nat) (a1 : Option Nat) (a2 : Int32) (a5 : Int32)  (M : Mm) {out : Mm} (hB : Bd RX TX M) (ra0 : RX a0) (ia1 : inR RX a1) (h : fX7_give_L201 fu  a0 a1 a2 a5 M = some out) : Sm RX M out ∧ Bd RX TX out := by
  unfold fX7_give_L201 at h
  have hS : Sm RX M M := Sm.rf
  by_cases hc : a2 = (405 : Int32)
  · have h := (if_pos hc).symm.trans h
    obtain ⟨q1, eq1, h⟩ := bd h
    have rq1 := rc_in hB (show 1 ≤ 11 from by decide) eq1
    obtain ⟨M2, eM2, h⟩ := bd h
    have w := oX1_write fu q1 (some 39) M hB rq1 eM2
    have hS := hS.tr w.1
    have hB := w.2
    have z := oX7_give_L215 fu   a0 a1 a2 a5 M2 hB ra0 ia1 h
    exact ⟨hS.tr z.1, z.2⟩
  · have h := (if_neg hc).symm.trans h
    have z := oX7_give_L215 fu   a0 a1 a2 a5 M hB ra0 ia1 h
    exact ⟨hS.tr z.1, z.2⟩
theorem oX7_give_L179 (fu : Nat)   (a0 : Nat) (a1 : Option Nat) (a2 : Int32) (a5 : Int32)  (M : Mm) {out : Mm} (hB : Bd RX TX M) (ra0 : RX a0) (ia1 : inR RX a1) (h : fX7_give_L179 fu  a0 a1 a2 a5 M = some out) : Sm RX M out ∧ Bd RX TX out := by
  unfold fX7_give_L179 at h
  have hS : Sm RX M M := Sm.rf
  obtain ⟨q1, eq1, h⟩ := bd h
  have rq1 := rc_in hB (show 1 ≤ 11 from by decide) eq1
  obtain ⟨M2, eM2, h⟩ := bd h
  have w := oX1_write fu q1 (some 38) M hB rq1 eM2
  have hS := hS.tr w.1
  have hB := w.2
  obtain ⟨v3, ev3, h⟩ := bd h
  have iv3 := gR_in hB (show 7 ≤ 11 from by decide) ev3
  obtain ⟨v4, ev4, h⟩ := bd h
  obtain ⟨q5, eq5, h⟩ := bd h
  have rq5 := rc_in hB (show 8 ≤ 11 from by decide) eq5
  obtain ⟨v7, M6, eM6, h⟩ := b2d h
  have w := oX8_markOf fu q5 v4 M2 hB rq5 eM6
  have hS := hS.tr w.1
  have hB := w.2
  obtain ⟨q8, eq8, h⟩ := bd h
  have rq8 := rc_in hB (show 1 ≤ 11 from by decide) eq8
  obtain ⟨M9, eM9, h⟩ := bd h
  have w := oX1_writeMark fu q8 v7 M6 hB rq8 eM9
  have hS := hS.tr w.1
  have hB := w.2
  have z := oX7_give_L201 fu   a0 a1 a2 a5 M9 hB ra0 ia1 h
  exact ⟨hS.tr z.1, z.2⟩
theorem oX7_give_L167 (fu : Nat)   (a0 : Nat) (a1 : Option Nat) (a2 : Int32) (a4 : Int32) (a5 : Int32)  (M : Mm) {out : Mm} (hB : Bd RX TX M) (ra0 : RX a0) (ia1 : inR RX a1) (h : fX7_give_L167 fu  a0 a1 a2 a4 a5 M = some out) : Sm RX M out ∧ Bd RX TX out := by
  unfold fX7_give_L167 at h
  have hS : Sm RX M M := Sm.rf
  by_cases hc : a4 = 0
  · have h := (if_pos hc).symm.trans h
    by_cases hc : a2 = (304 : Int32)
    · have h := (if_pos hc).symm.trans h
      have z := oX7_give_L179 fu   a0 a1 a2 a5 M hB ra0 ia1 h
      exact ⟨hS.tr z.1, z.2⟩
    · have h := (if_neg hc).symm.trans h
      have z := oX7_give_L201 fu   a0 a1 a2 a5 M hB ra0 ia1 h
      exact ⟨hS.tr z.1, z.2⟩
  · have h := (if_neg hc).symm.trans h
    have z := oX7_give_L179 fu   a0 a1 a2 a5 M hB ra0 ia1 h
    exact ⟨hS.tr z.1, z.2⟩
theorem oX7_give_L164 (fu : Nat)   (a0 : Nat) (a1 : Option Nat) (a2 : Int32) (a4 : Int32) (a5 : Int32) (s0 : Option Nat) (s1 : Option Nat) (M : Mm) {out : Mm} (hB : Bd RX TX M) (ra0 : RX a0) (ia1 : inR RX a1) (is0 : inR RX s0) (h : fX7_give_L164 fu  a0 a1 a2 a4 a5 s0 s1 M = some out) : Sm RX M out ∧ Bd RX TX out := by
  unfold fX7_give_L164 at h
  have hS : Sm RX M M := Sm.rf
  obtain ⟨q1, eq1, h⟩ := bd h
  have rq1 := rc_in hB (show 1 ≤ 11 from by decide) eq1
  obtain ⟨M2, eM2, h⟩ := bd h
  have w := oX1_write fu q1 s1 M hB rq1 eM2
  have hS := hS.tr w.1
  have hB := w.2
  have z := oX7_give_L167 fu   a0 a1 a2 a4 a5 M2 hB ra0 ia1 h
  exact ⟨hS.tr z.1, z.2⟩
theorem oX7_give_L95 (fu : Nat)   (a0 : Nat) (a1 : Option Nat) (a2 : Int32) (a3 : Option Nat) (a4 : Int32) (s0 : Int32) (M : Mm) {out : Mm} (hB : Bd RX TX M) (ra0 : RX a0) (ia1 : inR RX a1) (h : fX7_give_L95 fu  a0 a1 a2 a3 a4 s0 M = some out) : Sm RX M out ∧ Bd RX TX out := by
  unfold fX7_give_L95 at h
  have hS : Sm RX M M := Sm.rf
  obtain ⟨q1, eq1, h⟩ := bd h
  have rq1 := rc_in hB (show 1 ≤ 11 from by decide) eq1
  obtain ⟨M2, eM2, h⟩ := bd h
  have w := oX1_write fu q1 (some 23) M hB rq1 eM2
  have hS := hS.tr w.1
  have hB := w.2
  obtain ⟨q3, eq3, h⟩ := bd h
  have rq3 := rc_in hB (show 1 ≤ 11 from by decide) eq3
  obtain ⟨M4, eM4, h⟩ := bd h
  have w := oX1_writeNumber fu q3 a2 M2 hB rq3 eM4
  have hS := hS.tr w.1
  have hB := w.2
  obtain ⟨q5, eq5, h⟩ := bd h
  have rq5 := rc_in hB (show 1 ≤ 11 from by decide) eq5
  obtain ⟨M6, eM6, h⟩ := bd h
  have w := oX1_write fu q5 (some 24) M4 hB rq5 eM6
  have hS := hS.tr w.1
  have hB := w.2
  obtain ⟨q7, eq7, h⟩ := bd h
  have rq7 := rc_in hB (show 1 ≤ 11 from by decide) eq7
  obtain ⟨M8, eM8, h⟩ := bd h
  have w := oX1_write fu q7 a3 M6 hB rq7 eM8
  have hS := hS.tr w.1
  have hB := w.2
  by_cases hc : a2 = (304 : Int32)
  · have h := (if_pos hc).symm.trans h
    have z := oX7_give_L167 fu   a0 a1 a2 a4 s0 M8 hB ra0 ia1 h
    exact ⟨hS.tr z.1, z.2⟩
  · have h := (if_neg hc).symm.trans h
    obtain ⟨q9, eq9, h⟩ := bd h
    have rq9 := rc_in hB (show 1 ≤ 11 from by decide) eq9
    obtain ⟨M10, eM10, h⟩ := bd h
    have w := oX1_write fu q9 (some 25) M8 hB rq9 eM10
    have hS := hS.tr w.1
    have hB := w.2
    obtain ⟨q11, eq11, h⟩ := bd h
    have rq11 := rc_in hB (show 1 ≤ 11 from by decide) eq11
    obtain ⟨M12, eM12, h⟩ := bd h
    have w := oX1_writeNumber fu q11 s0 M10 hB rq11 eM12
    have hS := hS.tr w.1
    have hB := w.2
    obtain ⟨q13, eq13, h⟩ := bd h
    have rq13 := rc_in hB (show 1 ≤ 11 from by decide) eq13
    obtain ⟨M14, eM14, h⟩ := bd h
    have w := oX1_write fu q13 (some 26) M12 hB rq13 eM14
    have hS := hS.tr w.1
    have hB := w.2
    by_cases hc : a4 = 0
    · have h := (if_pos hc).symm.trans h
      have z := oX7_give_L164 fu   a0 a1 a2 a4 s0 a1 (some 34) M14 hB ra0 ia1 ia1 h
      exact ⟨hS.tr z.1, z.2⟩
    · have h := (if_neg hc).symm.trans h
      obtain ⟨q15, eq15, h⟩ := bd h
      have rq15 := rc_in hB (show 7 ≤ 11 from by decide) eq15
      obtain ⟨v17, M16, eM16, h⟩ := b2d h
      have w := oX7_contentType fu q15  M14 hB rq15 eM16
      have hS := hS.tr w.1
      have hB := w.2
      have z := oX7_give_L164 fu   a0 a1 a2 a4 s0 a1 v17 M16 hB ra0 ia1 ia1 h
      exact ⟨hS.tr z.1, z.2⟩
theorem oX7_give_L68 (fu : Nat)   (a0 : Nat) (a1 : Option Nat) (a2 : Int32) (a3 : Option Nat) (s0 : Int32) (M : Mm) {out : Mm} (hB : Bd RX TX M) (ra0 : RX a0) (ia1 : inR RX a1) (h : fX7_give_L68 fu  a0 a1 a2 a3 s0 M = some out) : Sm RX M out ∧ Bd RX TX out := by
  unfold fX7_give_L68 at h
  have hS : Sm RX M M := Sm.rf
  by_cases hc : s0 = 0
  · have h := (if_pos hc).symm.trans h
    obtain ⟨q1, eq1, h⟩ := bd h
    obtain ⟨v3, M2, eM2, h⟩ := b2d h
    have w := oJ0_length_8abf5 fu q1  M hB  eM2
    have hS := hS.tr w.1
    have hB := w.2
    have z := oX7_give_L95 fu   a0 a1 a2 a3 s0 (v3 + (5 : Int32)) M2 hB ra0 ia1 h
    exact ⟨hS.tr z.1, z.2⟩
  · have h := (if_neg hc).symm.trans h
    obtain ⟨v4, ev4, h⟩ := bd h
    have iv4 := gR_in hB (show 7 ≤ 11 from by decide) ev4
    obtain ⟨v5, ev5, h⟩ := bd h
    obtain ⟨q6, eq6, h⟩ := bd h
    have rq6 := rc_in hB (show 8 ≤ 11 from by decide) eq6
    obtain ⟨v8, M7, eM7, h⟩ := b2d h
    have w := oX8_sizeOf fu q6 v5 M hB rq6 eM7
    have hS := hS.tr w.1
    have hB := w.2
    have z := oX7_give_L95 fu   a0 a1 a2 a3 s0 v8 M7 hB ra0 ia1 h
    exact ⟨hS.tr z.1, z.2⟩
theorem oX7_give_L48 (fu : Nat)   (a0 : Nat) (a1 : Option Nat) (a2 : Int32) (s0 : Option Nat) (s1 : Int32) (M : Mm) {out : Mm} (hB : Bd RX TX M) (ra0 : RX a0) (ia1 : inR RX a1) (is0 : inR RX s0) (h : fX7_give_L48 fu  a0 a1 a2 s0 s1 M = some out) : Sm RX M out ∧ Bd RX TX out := by
  unfold fX7_give_L48 at h
  have hS : Sm RX M M := Sm.rf
  obtain ⟨M1, eM1, h⟩ := bd h
  have w := pZ_own hB (show 1 ≤ 11 from by decide) eM1
  have hS := hS.tr w.1
  have hB := w.2
  obtain ⟨v3, M2, eM2, h⟩ := b2d h
  have w := oX7_phrase fu  a2 M1 hB  eM2
  have hS := hS.tr w.1
  have hB := w.2
  by_cases hc : a2 = (200 : Int32)
  · have h := (if_pos hc).symm.trans h
    have z := oX7_give_L68 fu   a0 a1 a2 v3 (1 : Int32) M2 hB ra0 ia1 h
    exact ⟨hS.tr z.1, z.2⟩
  · have h := (if_neg hc).symm.trans h
    have z := oX7_give_L68 fu   a0 a1 a2 v3 (0 : Int32) M2 hB ra0 ia1 h
    exact ⟨hS.tr z.1, z.2⟩
theorem oX7_give_L43 (fu : Nat)   (a0 : Nat) (a1 : Option Nat) (a2 : Int32) (s0 : Option Nat) (M : Mm) {out : Mm} (hB : Bd RX TX M) (ra0 : RX a0) (ia1 : inR RX a1) (is0 : inR RX s0) (h : fX7_give_L43 fu  a0 a1 a2 s0 M = some out) : Sm RX M out ∧ Bd RX TX out := by
  unfold fX7_give_L43 at h
  have hS : Sm RX M M := Sm.rf
  have z := oX7_give_L48 fu   a0 a1 a2 s0 (1 : Int32) M hB ra0 ia1 is0 h
  exact ⟨hS.tr z.1, z.2⟩
theorem oX7_give (fu : Nat)   (a0 : Nat) (a1 : Option Nat) (a2 : Int32)  (M : Mm) {out : Mm} (hB : Bd RX TX M) (ra0 : RX a0) (ia1 : inR RX a1) (h : fX7_give fu  a0 a1 a2 M = some out) : Sm RX M out ∧ Bd RX TX out := by
  unfold fX7_give at h
  have hS : Sm RX M M := Sm.rf
  obtain ⟨v1, ev1, h⟩ := bd h
  have iv1 := gR_in hB (show 7 ≤ 11 from by decide) ev1
  obtain ⟨v2, ev2, h⟩ := bd h
  have iv2 := gR_in hB (show 10 ≤ 11 from by decide) ev2
  obtain ⟨v3, ev3, h⟩ := bd h
  obtain ⟨M4, eM4, h⟩ := bd h
  have w := pA_own hB iv2 (by decide) eM4
  have hS := hS.tr w.1
  have hB := w.2
  obtain ⟨v5, ev5, h⟩ := bd h
  obtain ⟨q6, eq6, h⟩ := bd h
  have rq6 := rc_in hB (show 1 ≤ 11 from by decide) eq6
  obtain ⟨M7, eM7, h⟩ := bd h
  have w := oX1_clearAnswer fu q6 v5 M4 hB rq6 eM7
  have hS := hS.tr w.1
  have hB := w.2
  obtain ⟨q8, eq8, h⟩ := bd h
  have rq8 := rc_in hB (show 7 ≤ 11 from by decide) eq8
  obtain ⟨v10, M9, eM9, h⟩ := b2d h
  have w := oX7_isPersistent fu q8  M7 hB rq8 eM9
  have hS := hS.tr w.1
  have hB := w.2
  by_cases hc : v10 = 0
  · have h := (if_pos hc).symm.trans h
    have z := oX7_give_L43 fu   a0 a1 a2 a1 M9 hB ra0 ia1 ia1 h
    exact ⟨hS.tr z.1, z.2⟩
  · have h := (if_neg hc).symm.trans h
    obtain ⟨v12, M11, eM11, h⟩ := b2d h
    have w := oX7_isBodyLeftOut fu  a2 M9 hB  eM11
    have hS := hS.tr w.1
    have hB := w.2
    by_cases hc : v12 = 0
    · have h := (if_pos hc).symm.trans h
      have z := oX7_give_L43 fu   a0 a1 a2 a1 M11 hB ra0 ia1 ia1 h
      exact ⟨hS.tr z.1, z.2⟩
    · have h := (if_neg hc).symm.trans h
      by_cases hc : a2 = (500 : Int32)
      · have h := (if_pos hc).symm.trans h
        have z := oX7_give_L43 fu   a0 a1 a2 a1 M11 hB ra0 ia1 ia1 h
        exact ⟨hS.tr z.1, z.2⟩
      · have h := (if_neg hc).symm.trans h
        have z := oX7_give_L48 fu   a0 a1 a2 a1 (0 : Int32) M11 hB ra0 ia1 ia1 h
        exact ⟨hS.tr z.1, z.2⟩
theorem oX7_lookAt_L81 (fu : Nat)   (a2 : Option Nat) (s0 : Option Nat) (s1 : Int32) (M : Mm) {out : Mm} (hB : Bd RX TX M) (ia2 : inR RX a2) (is0 : inR RX s0) (h : fX7_lookAt_L81 fu  a2 s0 s1 M = some out) : Sm RX M out ∧ Bd RX TX out := by
  unfold fX7_lookAt_L81 at h
  have hS : Sm RX M M := Sm.rf
  obtain ⟨M1, eM1, h⟩ := bd h
  have w := pF_own hB (show 0 ≤ 11 from by decide) eM1
  have hS := hS.tr w.1
  have hB := w.2
  obtain ⟨q2, eq2, h⟩ := bd h
  have rq2 := rc_in hB (show 0 ≤ 11 from by decide) eq2
  obtain ⟨M3, eM3, h⟩ := bd h
  have w := oX0_leaveBody fu q2  M1 hB rq2 eM3
  have hS := hS.tr w.1
  have hB := w.2
  obtain rfl := Option.some.inj h
  exact ⟨hS, hB⟩
theorem oX7_lookAt_L31 (fu : Nat)   (a0 : Nat) (a1 : Option Nat) (a2 : Option Nat)  (M : Mm) {out : Mm} (hB : Bd RX TX M) (ra0 : RX a0) (ia1 : inR RX a1) (ia2 : inR RX a2) (h : fX7_lookAt_L31 fu  a0 a1 a2 M = some out) : Sm RX M out ∧ Bd RX TX out := by
  unfold fX7_lookAt_L31 at h
  have hS : Sm RX M M := Sm.rf
  obtain ⟨q1, eq1, h⟩ := bd h
  have rq1 := rc_in hB (show 7 ≤ 11 from by decide) eq1
  obtain ⟨v3, M2, eM2, h⟩ := b2d h
  have w := oX7_copyHead fu q1 a2 M hB rq1 ia2 eM2
  have hS := hS.tr w.1
  have hB := w.2
  by_cases hc : v3 ≤ 0
  · have h := (if_pos hc).symm.trans h
    obtain ⟨q4, eq4, h⟩ := bd h
    have rq4 := rc_in hB (show 0 ≤ 11 from by decide) eq4
    obtain ⟨v6, M5, eM5, h⟩ := b2d h
    have w := oX0_held fu q4  M2 hB rq4 eM5
    have hS := hS.tr w.1
    have hB := w.2
    by_cases hc : v6 < (4096 : Int32)
    · have h := (if_pos hc).symm.trans h
      obtain ⟨v7, ev7, h⟩ := bd h
      by_cases hc : v7 = (7 : Int32)
      · have h := (if_pos hc).symm.trans h
        obtain ⟨M8, eM8, h⟩ := bd h
        have w := pZ_own hB (show 1 ≤ 11 from by decide) eM8
        have hS := hS.tr w.1
        have hB := w.2
        obtain rfl := Option.some.inj h
        exact ⟨hS, hB⟩
      · have h := (if_neg hc).symm.trans h
        obtain rfl := Option.some.inj h
        exact ⟨hS, hB⟩
    · have h := (if_neg hc).symm.trans h
      obtain ⟨q9, eq9, h⟩ := bd h
      have rq9 := rc_in hB (show 0 ≤ 11 from by decide) eq9
      obtain ⟨M10, eM10, h⟩ := bd h
      have w := oX0_leave fu q9 (4096 : Int32) M5 hB rq9 eM10
      have hS := hS.tr w.1
      have hB := w.2
      obtain ⟨q11, eq11, h⟩ := bd h
      have rq11 := rc_in hB (show 7 ≤ 11 from by decide) eq11
      obtain ⟨M12, eM12, h⟩ := bd h
      have w := oX7_forget fu q11  M10 hB rq11 eM12
      have hS := hS.tr w.1
      have hB := w.2
      obtain ⟨q13, eq13, h⟩ := bd h
      have rq13 := rc_in hB (show 7 ≤ 11 from by decide) eq13
      obtain ⟨M14, eM14, h⟩ := bd h
      have w := oX7_give fu q13 a1 (431 : Int32) M12 hB rq13 ia1 eM14
      have hS := hS.tr w.1
      have hB := w.2
      obtain rfl := Option.some.inj h
      exact ⟨hS, hB⟩
  · have h := (if_neg hc).symm.trans h
    obtain ⟨q15, eq15, h⟩ := bd h
    have rq15 := rc_in hB (show 0 ≤ 11 from by decide) eq15
    obtain ⟨M16, eM16, h⟩ := bd h
    have w := oX0_leave fu q15 v3 M2 hB rq15 eM16
    have hS := hS.tr w.1
    have hB := w.2
    obtain ⟨q17, eq17, h⟩ := bd h
    have rq17 := rc_in hB (show 7 ≤ 11 from by decide) eq17
    obtain ⟨v19, M18, eM18, h⟩ := b2d h
    have w := oX7_readHead fu q17 v3 M16 hB rq17 eM18
    have hS := hS.tr w.1
    have hB := w.2
    obtain ⟨q20, eq20, h⟩ := bd h
    have rq20 := rc_in hB (show 7 ≤ 11 from by decide) eq20
    obtain ⟨M21, eM21, h⟩ := bd h
    have w := oX7_give fu q20 a1 v19 M18 hB rq20 ia1 eM21
    have hS := hS.tr w.1
    have hB := w.2
    obtain ⟨v23, M22, eM22, h⟩ := b2d h
    have w := oX7_isBodyLeftOut fu  v19 M21 hB  eM22
    have hS := hS.tr w.1
    have hB := w.2
    by_cases hc : v23 = 0
    · have h := (if_pos hc).symm.trans h
      have z := oX7_lookAt_L81 fu   a2 a2 (0 : Int32) M22 hB ia2 ia2 h
      exact ⟨hS.tr z.1, z.2⟩
    · have h := (if_neg hc).symm.trans h
      obtain ⟨v24, ev24, h⟩ := bd h
      have z := oX7_lookAt_L81 fu   a2 a2 v24 M22 hB ia2 ia2 h
      exact ⟨hS.tr z.1, z.2⟩
theorem oX7_lookAt (fu : Nat)   (a0 : Nat) (a1 : Option Nat)  (M : Mm) {out : Mm} (hB : Bd RX TX M) (ra0 : RX a0) (ia1 : inR RX a1) (h : fX7_lookAt fu  a0 a1 M = some out) : Sm RX M out ∧ Bd RX TX out := by
  unfold fX7_lookAt at h
  have hS : Sm RX M M := Sm.rf
  obtain ⟨v1, ev1, h⟩ := bd h
  have iv1 := gR_in hB (show 1 ≤ 11 from by decide) ev1
  obtain ⟨q2, eq2, h⟩ := bd h
  have rq2 := rc_in hB (show 0 ≤ 11 from by decide) eq2
  obtain ⟨M3, eM3, h⟩ := bd h
  have w := oX0_leaveBody fu q2  M hB rq2 eM3
  have hS := hS.tr w.1
  have hB := w.2
  obtain ⟨q4, eq4, h⟩ := bd h
  have rq4 := rc_in hB (show 1 ≤ 11 from by decide) eq4
  obtain ⟨v6, M5, eM5, h⟩ := b2d h
  have w := oX1_isReady fu q4  M3 hB rq4 eM5
  have hS := hS.tr w.1
  have hB := w.2
  by_cases hc : v6 = 0
  · have h := (if_pos hc).symm.trans h
    obtain rfl := Option.some.inj h
    exact ⟨hS, hB⟩
  · have h := (if_neg hc).symm.trans h
    obtain ⟨v8, M7, eM7, h⟩ := b2d h
    have w := oX7_emptyLines fu  v1 M5 hB iv1 eM7
    have hS := hS.tr w.1
    have hB := w.2
    by_cases hc : v8 ≤ 0
    · have h := (if_pos hc).symm.trans h
      have z := oX7_lookAt_L31 fu   a0 a1 v1 M7 hB ra0 ia1 iv1 h
      exact ⟨hS.tr z.1, z.2⟩
    · have h := (if_neg hc).symm.trans h
      obtain ⟨q9, eq9, h⟩ := bd h
      have rq9 := rc_in hB (show 0 ≤ 11 from by decide) eq9
      obtain ⟨M10, eM10, h⟩ := bd h
      have w := oX0_leave fu q9 v8 M7 hB rq9 eM10
      have hS := hS.tr w.1
      have hB := w.2
      have z := oX7_lookAt_L31 fu   a0 a1 v1 M10 hB ra0 ia1 iv1 h
      exact ⟨hS.tr z.1, z.2⟩
theorem oX8_init (fu : Nat)   (a0 : Nat)  (M : Mm) {out : Mm} (hB : Bd RX TX M) (ra0 : RX a0) (h : fX8_init fu  a0 M = some out) : Sm RX M out ∧ Bd RX TX out := by
  unfold fX8_init at h
  have hS : Sm RX M M := Sm.rf
  obtain ⟨v1, M2, eM2, h⟩ := b2d h
  have w := mkA_own hB (by decide) eM2
  have hS := hS.tr w.1
  have rv1 := w.2.2
  have hB := w.2.1
  obtain ⟨M3, eM3, h⟩ := bd h
  have w := pG_own hB (show 8 ≤ 11 from by decide) (inR_some rv1) eM3
  have hS := hS.tr w.1
  have hB := w.2
  obtain ⟨v4, M5, eM5, h⟩ := b2d h
  have w := mkA_own hB (by decide) eM5
  have hS := hS.tr w.1
  have rv4 := w.2.2
  have hB := w.2.1
  obtain ⟨M6, eM6, h⟩ := bd h
  have w := pG_own hB (show 8 ≤ 11 from by decide) (inR_some rv4) eM6
  have hS := hS.tr w.1
  have hB := w.2
  obtain rfl := Option.some.inj h
  exact ⟨hS, hB⟩
theorem oJ7_copyOf_9075b (fu : Nat)   (a0 : Option Nat) (a1 : Int32)  (M : Mm) {out : Option Nat × Mm} (hB : Bd RX TX M) (ia0 : inR RX a0) (h : fJ7_copyOf_9075b fu  a0 a1 M = some out) : Sm RX M out.2 ∧ Bd RX TX out.2 ∧ inR RX out.1 := by
  unfold fJ7_copyOf_9075b at h
  have hS : Sm RX M M := Sm.rf
  obtain ⟨v1, ev1, h⟩ := bd h
  by_cases hc : a1 = v1
  · have h := (if_pos hc).symm.trans h
    obtain ⟨q6, M7, eM7, h⟩ := b2d h
    have w := clnB_own hB eM7
    have hS := hS.tr w.1
    have rq6 := w.2.2
    have hB := w.2.1
    obtain ⟨q8, eq8, h⟩ := bd h
    have rq8 : RX q8 := by have z := rc_some eq8; exact (inR_some rq6) _ z.1
    obtain rfl := Option.some.inj h
    exact ⟨hS, hB, (inR_some rq8)⟩
  · have h := (if_neg hc).symm.trans h
    obtain ⟨v2, M3, eM3, h⟩ := b2d h
    have w := mkA_own hB (by decide) eM3
    have hS := hS.tr w.1
    have rv2 := w.2.2
    have hB := w.2.1
    obtain ⟨v4, ev4, h⟩ := bd h
    obtain ⟨M5, eM5, h⟩ := bd h
    have w := cpB_own hB (inR_some rv2) eM5
    have hS := hS.tr w.1
    have hB := w.2
    obtain rfl := Option.some.inj h
    exact ⟨hS, hB, (inR_some rv2)⟩
theorem oX8_keep (fu : Nat)   (a0 : Nat) (a1 : Option Nat) (a2 : Int32)  (M : Mm) {out : Mm} (hB : Bd RX TX M) (ra0 : RX a0) (ia1 : inR RX a1) (h : fX8_keep fu  a0 a1 a2 M = some out) : Sm RX M out ∧ Bd RX TX out := by
  unfold fX8_keep at h
  have hS : Sm RX M M := Sm.rf
  by_cases hc : a2 < 0
  · have h := (if_pos hc).symm.trans h
    obtain rfl := Option.some.inj h
    exact ⟨hS, hB⟩
  · have h := (if_neg hc).symm.trans h
    obtain ⟨v2, M1, eM1, h⟩ := b2d h
    have w := oJ7_copyOf_9075b fu  a1 a2 M hB ia1 eM1
    have hS := hS.tr w.1
    have iv2 := w.2.2
    have hB := w.2.1
    obtain ⟨M3, eM3, h⟩ := bd h
    have w := pG_own hB (show 8 ≤ 11 from by decide) iv2 eM3
    have hS := hS.tr w.1
    have hB := w.2
    obtain rfl := Option.some.inj h
    exact ⟨hS, hB⟩
theorem oX8_hasRightName_L96 (fu : Nat) {out : Int32 × Mm} (k35 : Nat → Int32 → Int32 → Int32 → Mm → Option (Int32 × Mm)) (hk35 : ∀ (b0 : Nat) (b1 : Int32) (b2 : Int32) (b3 : Int32)  (M : Mm), Bd RX TX M → RX b0 → k35 b0 b1 b2 b3 M = some out → Sm RX M out.2 ∧ Bd RX TX out.2) (a0 : Nat) (a1 : Int32) (a2 : Int32) (a3 : Int32)  (M : Mm) (hB : Bd RX TX M) (ra0 : RX a0) (h : fX8_hasRightName_L96 fu k35 a0 a1 a2 a3 M = some out) : Sm RX M out.2 ∧ Bd RX TX out.2 := by
  unfold fX8_hasRightName_L96 at h
  have hS : Sm RX M M := Sm.rf
  have z := hk35 a0 a1 a2 (a3 + (1 : Int32)) M hB ra0 h
  exact ⟨hS.tr z.1, z.2⟩
theorem oX8_hasRightName_L67 (fu : Nat) {out : Int32 × Mm} (k35 : Nat → Int32 → Int32 → Int32 → Mm → Option (Int32 × Mm)) (hk35 : ∀ (b0 : Nat) (b1 : Int32) (b2 : Int32) (b3 : Int32)  (M : Mm), Bd RX TX M → RX b0 → k35 b0 b1 b2 b3 M = some out → Sm RX M out.2 ∧ Bd RX TX out.2) (a0 : Nat) (a1 : Int32) (a3 : Int32) (a4 : Int32) (s0 : Int32) (M : Mm) (hB : Bd RX TX M) (ra0 : RX a0) (h : fX8_hasRightName_L67 fu k35 a0 a1 a3 a4 s0 M = some out) : Sm RX M out.2 ∧ Bd RX TX out.2 := by
  unfold fX8_hasRightName_L67 at h
  have hS : Sm RX M M := Sm.rf
  by_cases hc : s0 = 0
  · have h := (if_pos hc).symm.trans h
    by_cases hc : a4 < (33 : Int32)
    · have h := (if_pos hc).symm.trans h
      obtain ⟨hz, rfl⟩ := rN_some h
      exact ⟨hS, hB⟩
    · have h := (if_neg hc).symm.trans h
      by_cases hc : a4 ≤ (126 : Int32)
      · have h := (if_pos hc).symm.trans h
        have z := oX8_hasRightName_L96 fu k35 hk35 a0 a1 s0 a3 M hB ra0 h
        exact ⟨hS.tr z.1, z.2⟩
      · have h := (if_neg hc).symm.trans h
        obtain ⟨hz, rfl⟩ := rN_some h
        exact ⟨hS, hB⟩
  · have h := (if_neg hc).symm.trans h
    by_cases hc : a4 = 0
    · have h := (if_pos hc).symm.trans h
      have z := oX8_hasRightName_L96 fu k35 hk35 a0 a1 s0 a3 M hB ra0 h
      exact ⟨hS.tr z.1, z.2⟩
    · have h := (if_neg hc).symm.trans h
      obtain ⟨hz, rfl⟩ := rN_some h
      exact ⟨hS, hB⟩
theorem oX8_hasRightName_L62 (fu : Nat) {out : Int32 × Mm} (k35 : Nat → Int32 → Int32 → Int32 → Mm → Option (Int32 × Mm)) (hk35 : ∀ (b0 : Nat) (b1 : Int32) (b2 : Int32) (b3 : Int32)  (M : Mm), Bd RX TX M → RX b0 → k35 b0 b1 b2 b3 M = some out → Sm RX M out.2 ∧ Bd RX TX out.2) (a0 : Nat) (a1 : Int32) (a3 : Int32) (a4 : Int32)  (M : Mm) (hB : Bd RX TX M) (ra0 : RX a0) (h : fX8_hasRightName_L62 fu k35 a0 a1 a3 a4 M = some out) : Sm RX M out.2 ∧ Bd RX TX out.2 := by
  unfold fX8_hasRightName_L62 at h
  have hS : Sm RX M M := Sm.rf
  have z := oX8_hasRightName_L67 fu k35 hk35 a0 a1 a3 a4 (1 : Int32) M hB ra0 h
  exact ⟨hS.tr z.1, z.2⟩
theorem oX8_hasRightName_L35 (fu : Nat) {out : Int32 × Mm}   : ∀ (n : Nat) (a0 : Nat) (a1 : Int32) (a2 : Int32) (a3 : Int32)  (M : Mm), Bd RX TX M → RX a0 → fX8_hasRightName_L35 fu  n a0 a1 a2 a3 M = some out → Sm RX M out.2 ∧ Bd RX TX out.2 := by
  intro n
  induction n with
  | zero =>
    intro a0 a1 a2 a3 M hB ra0 h
    have h : (none : Option (Int32 × Mm)) = some out := h
    cases h
  | succ n ih =>
    intro a0 a1 a2 a3 M hB ra0 h
    rw [fX8_hasRightName_L35] at h
    have hS : Sm RX M M := Sm.rf
    by_cases hc : (48 : Int32) ≤ a3
    · have h := (if_pos hc).symm.trans h
      obtain ⟨hz, rfl⟩ := rN_some h
      exact ⟨hS, hB⟩
    · have h := (if_neg hc).symm.trans h
      obtain ⟨v1, ev1, h⟩ := bd h
      have iv1 := gR_in hB (show 8 ≤ 11 from by decide) ev1
      obtain ⟨v3, M2, eM2, h⟩ := b2d h
      have w := oX11_one fu  v1 (a1 + a3) M hB iv1 eM2
      have hS := hS.tr w.1
      have hB := w.2
      by_cases hc : a2 = 0
      · have h := (if_pos hc).symm.trans h
        by_cases hc : v3 = 0
        · have h := (if_pos hc).symm.trans h
          have z := oX8_hasRightName_L62 fu (fun b0 b1 b2 b3 M => fX8_hasRightName_L35 fu  n b0 b1 b2 b3 M) ih a0 a1 a3 v3 M2 hB ra0 h
          exact ⟨hS.tr z.1, z.2⟩
        · have h := (if_neg hc).symm.trans h
          have z := oX8_hasRightName_L67 fu (fun b0 b1 b2 b3 M => fX8_hasRightName_L35 fu  n b0 b1 b2 b3 M) ih a0 a1 a3 v3 (0 : Int32) M2 hB ra0 h
          exact ⟨hS.tr z.1, z.2⟩
      · have h := (if_neg hc).symm.trans h
        have z := oX8_hasRightName_L62 fu (fun b0 b1 b2 b3 M => fX8_hasRightName_L35 fu  n b0 b1 b2 b3 M) ih a0 a1 a3 v3 M2 hB ra0 h
        exact ⟨hS.tr z.1, z.2⟩
theorem oX8_hasRightName (fu : Nat)   (a0 : Nat) (a1 : Int32)  (M : Mm) {out : Int32 × Mm} (hB : Bd RX TX M) (ra0 : RX a0) (h : fX8_hasRightName fu  a0 a1 M = some out) : Sm RX M out.2 ∧ Bd RX TX out.2 := by
  unfold fX8_hasRightName at h
  have hS : Sm RX M M := Sm.rf
  obtain ⟨v1, ev1, h⟩ := bd h
  have iv1 := gR_in hB (show 8 ≤ 11 from by decide) ev1
  obtain ⟨v3, M2, eM2, h⟩ := b2d h
  have w := oX11_one fu  v1 a1 M hB iv1 eM2
  have hS := hS.tr w.1
  have hB := w.2
  by_cases hc : v3 = (47 : Int32)
  · have h := (if_pos hc).symm.trans h
    obtain ⟨v4, ev4, h⟩ := bd h
    have iv4 := gR_in hB (show 8 ≤ 11 from by decide) ev4
    obtain ⟨v6, M5, eM5, h⟩ := b2d h
    have w := oX11_one fu  v4 ((a1 + (48 : Int32)) - (1 : Int32)) M2 hB iv4 eM5
    have hS := hS.tr w.1
    have hB := w.2
    by_cases hc : v6 = 0
    · have h := (if_pos hc).symm.trans h
      have z := oX8_hasRightName_L35 fu   fu a0 a1 (0 : Int32) (1 : Int32) M5 hB ra0 h
      exact ⟨hS.tr z.1, z.2⟩
    · have h := (if_neg hc).symm.trans h
      obtain ⟨hz, rfl⟩ := rN_some h
      exact ⟨hS, hB⟩
  · have h := (if_neg hc).symm.trans h
    obtain ⟨hz, rfl⟩ := rN_some h
    exact ⟨hS, hB⟩
theorem oX8_liesWithin (fu : Nat)   (a0 : Nat) (a1 : Int32)  (M : Mm) {out : Int32 × Mm} (hB : Bd RX TX M) (ra0 : RX a0) (h : fX8_liesWithin fu  a0 a1 M = some out) : Sm RX M out.2 ∧ Bd RX TX out.2 := by
  unfold fX8_liesWithin at h
  have hS : Sm RX M M := Sm.rf
  obtain ⟨v1, ev1, h⟩ := bd h
  have iv1 := gR_in hB (show 8 ≤ 11 from by decide) ev1
  obtain ⟨v3, M2, eM2, h⟩ := b2d h
  have w := oX11_four fu  v1 (a1 + (48 : Int32)) M hB iv1 eM2
  have hS := hS.tr w.1
  have hB := w.2
  obtain ⟨v4, ev4, h⟩ := bd h
  obtain ⟨v5, ev5, h⟩ := bd h
  have iv5 := gR_in hB (show 8 ≤ 11 from by decide) ev5
  obtain ⟨v7, M6, eM6, h⟩ := b2d h
  have w := oX11_four fu  v5 ((a1 + (48 : Int32)) + (4 : Int32)) M2 hB iv5 eM6
  have hS := hS.tr w.1
  have hB := w.2
  obtain ⟨v8, ev8, h⟩ := bd h
  obtain ⟨v9, ev9, h⟩ := bd h
  have iv9 := gR_in hB (show 8 ≤ 11 from by decide) ev9
  obtain ⟨v10, ev10, h⟩ := bd h
  by_cases hc : 0 < (lg_cmp (v4 + v8) (Int32.toInt64 v10))
  · have h := (if_pos hc).symm.trans h
    obtain ⟨hz, rfl⟩ := rN_some h
    exact ⟨hS, hB⟩
  · have h := (if_neg hc).symm.trans h
    obtain ⟨v11, ev11, h⟩ := bd h
    have iv11 := gR_in hB (show 8 ≤ 11 from by decide) ev11
    obtain ⟨v13, M12, eM12, h⟩ := b2d h
    have w := oX11_four fu  v11 ((a1 + (48 : Int32)) + (12 : Int32)) M6 hB iv11 eM12
    have hS := hS.tr w.1
    have hB := w.2
    by_cases hc : v13 = 0
    · have h := (if_pos hc).symm.trans h
      obtain ⟨hz, rfl⟩ := rN_some h
      exact ⟨hS, hB⟩
    · have h := (if_neg hc).symm.trans h
      obtain ⟨hz, rfl⟩ := rN_some h
      exact ⟨hS, hB⟩
theorem oX8_isNamedBefore_L45 (fu : Nat) {out : Int32 × Mm} (k3 : Nat → Int32 → Int32 → Mm → Option (Int32 × Mm)) (hk3 : ∀ (b0 : Nat) (b1 : Int32) (b2 : Int32)  (M : Mm), Bd RX TX M → RX b0 → k3 b0 b1 b2 M = some out → Sm RX M out.2 ∧ Bd RX TX out.2) (a0 : Nat) (a1 : Int32) (a2 : Int32) (a3 : Int32)  (M : Mm) (hB : Bd RX TX M) (ra0 : RX a0) (h : fX8_isNamedBefore_L45 fu k3 a0 a1 a2 a3 M = some out) : Sm RX M out.2 ∧ Bd RX TX out.2 := by
  unfold fX8_isNamedBefore_L45 at h
  have hS : Sm RX M M := Sm.rf
  by_cases hc : a3 = (48 : Int32)
  · have h := (if_pos hc).symm.trans h
    obtain ⟨hz, rfl⟩ := rN_some h
    exact ⟨hS, hB⟩
  · have h := (if_neg hc).symm.trans h
    have z := hk3 a0 a1 (a2 + (64 : Int32)) M hB ra0 h
    exact ⟨hS.tr z.1, z.2⟩
theorem oX8_isNamedBefore_L10 (fu : Nat) {out : Int32 × Mm} (k3 : Nat → Int32 → Int32 → Mm → Option (Int32 × Mm)) (hk3 : ∀ (b0 : Nat) (b1 : Int32) (b2 : Int32)  (M : Mm), Bd RX TX M → RX b0 → k3 b0 b1 b2 M = some out → Sm RX M out.2 ∧ Bd RX TX out.2) : ∀ (n : Nat) (a0 : Nat) (a1 : Int32) (a2 : Int32) (a3 : Int32)  (M : Mm), Bd RX TX M → RX a0 → fX8_isNamedBefore_L10 fu k3 n a0 a1 a2 a3 M = some out → Sm RX M out.2 ∧ Bd RX TX out.2 := by
  intro n
  induction n with
  | zero =>
    intro a0 a1 a2 a3 M hB ra0 h
    have h : (none : Option (Int32 × Mm)) = some out := h
    cases h
  | succ n ih =>
    intro a0 a1 a2 a3 M hB ra0 h
    rw [fX8_isNamedBefore_L10] at h
    have hS : Sm RX M M := Sm.rf
    by_cases hc : (48 : Int32) ≤ a3
    · have h := (if_pos hc).symm.trans h
      have z := oX8_isNamedBefore_L45 fu k3 hk3 a0 a1 a2 a3 M hB ra0 h
      exact ⟨hS.tr z.1, z.2⟩
    · have h := (if_neg hc).symm.trans h
      obtain ⟨v1, ev1, h⟩ := bd h
      have iv1 := gR_in hB (show 8 ≤ 11 from by decide) ev1
      obtain ⟨v3, M2, eM2, h⟩ := b2d h
      have w := oX11_one fu  v1 (a2 + a3) M hB iv1 eM2
      have hS := hS.tr w.1
      have hB := w.2
      obtain ⟨v4, ev4, h⟩ := bd h
      have iv4 := gR_in hB (show 8 ≤ 11 from by decide) ev4
      obtain ⟨v6, M5, eM5, h⟩ := b2d h
      have w := oX11_one fu  v4 (a1 + a3) M2 hB iv4 eM5
      have hS := hS.tr w.1
      have hB := w.2
      by_cases hc : v3 = v6
      · have h := (if_pos hc).symm.trans h
        have z := ih a0 a1 a2 (a3 + (1 : Int32)) M5 hB ra0 h
        exact ⟨hS.tr z.1, z.2⟩
      · have h := (if_neg hc).symm.trans h
        have z := oX8_isNamedBefore_L45 fu k3 hk3 a0 a1 a2 a3 M5 hB ra0 h
        exact ⟨hS.tr z.1, z.2⟩
theorem oX8_isNamedBefore_L3 (fu : Nat) {out : Int32 × Mm}   : ∀ (n : Nat) (a0 : Nat) (a1 : Int32) (a2 : Int32)  (M : Mm), Bd RX TX M → RX a0 → fX8_isNamedBefore_L3 fu  n a0 a1 a2 M = some out → Sm RX M out.2 ∧ Bd RX TX out.2 := by
  intro n
  induction n with
  | zero =>
    intro a0 a1 a2 M hB ra0 h
    have h : (none : Option (Int32 × Mm)) = some out := h
    cases h
  | succ n ih =>
    intro a0 a1 a2 M hB ra0 h
    rw [fX8_isNamedBefore_L3] at h
    have hS : Sm RX M M := Sm.rf
    by_cases hc : a1 ≤ a2
    · have h := (if_pos hc).symm.trans h
      obtain ⟨hz, rfl⟩ := rN_some h
      exact ⟨hS, hB⟩
    · have h := (if_neg hc).symm.trans h
      have z := oX8_isNamedBefore_L10 fu (fun b0 b1 b2 M => fX8_isNamedBefore_L3 fu  n b0 b1 b2 M) ih fu a0 a1 a2 (0 : Int32) M hB ra0 h
      exact ⟨hS.tr z.1, z.2⟩
theorem oX8_isNamedBefore (fu : Nat)   (a0 : Nat) (a1 : Int32)  (M : Mm) {out : Int32 × Mm} (hB : Bd RX TX M) (ra0 : RX a0) (h : fX8_isNamedBefore fu  a0 a1 M = some out) : Sm RX M out.2 ∧ Bd RX TX out.2 := by
  unfold fX8_isNamedBefore at h
  have hS : Sm RX M M := Sm.rf
  have z := oX8_isNamedBefore_L3 fu   fu a0 a1 (8 : Int32) M hB ra0 h
  exact ⟨hS.tr z.1, z.2⟩
theorem oX8_isRight_L82 (fu : Nat) {out : Int32 × Mm}   : ∀ (n : Nat) (a0 : Nat) (a1 : Int32) (a3 : Int32)  (M : Mm), Bd RX TX M → RX a0 → fX8_isRight_L82 fu  n a0 a1 a3 M = some out → Sm RX M out.2 ∧ Bd RX TX out.2 := by
  intro n
  induction n with
  | zero =>
    intro a0 a1 a3 M hB ra0 h
    have h : (none : Option (Int32 × Mm)) = some out := h
    cases h
  | succ n ih =>
    intro a0 a1 a3 M hB ra0 h
    rw [fX8_isRight_L82] at h
    have hS : Sm RX M M := Sm.rf
    by_cases hc : a1 ≤ a3
    · have h := (if_pos hc).symm.trans h
      obtain ⟨hz, rfl⟩ := rN_some h
      exact ⟨hS, hB⟩
    · have h := (if_neg hc).symm.trans h
      obtain ⟨q1, eq1, h⟩ := bd h
      have rq1 := rc_in hB (show 8 ≤ 11 from by decide) eq1
      obtain ⟨v3, M2, eM2, h⟩ := b2d h
      have w := oX8_hasRightName fu q1 ((8 : Int32) + ((64 : Int32) * a3)) M hB rq1 eM2
      have hS := hS.tr w.1
      have hB := w.2
      by_cases hc : v3 = 0
      · have h := (if_pos hc).symm.trans h
        obtain ⟨hz, rfl⟩ := rN_some h
        exact ⟨hS, hB⟩
      · have h := (if_neg hc).symm.trans h
        obtain ⟨q4, eq4, h⟩ := bd h
        have rq4 := rc_in hB (show 8 ≤ 11 from by decide) eq4
        obtain ⟨v6, M5, eM5, h⟩ := b2d h
        have w := oX8_liesWithin fu q4 ((8 : Int32) + ((64 : Int32) * a3)) M2 hB rq4 eM5
        have hS := hS.tr w.1
        have hB := w.2
        by_cases hc : v6 = 0
        · have h := (if_pos hc).symm.trans h
          obtain ⟨hz, rfl⟩ := rN_some h
          exact ⟨hS, hB⟩
        · have h := (if_neg hc).symm.trans h
          obtain ⟨q7, eq7, h⟩ := bd h
          have rq7 := rc_in hB (show 8 ≤ 11 from by decide) eq7
          obtain ⟨v9, M8, eM8, h⟩ := b2d h
          have w := oX8_isNamedBefore fu q7 ((8 : Int32) + ((64 : Int32) * a3)) M5 hB rq7 eM8
          have hS := hS.tr w.1
          have hB := w.2
          by_cases hc : v9 = 0
          · have h := (if_pos hc).symm.trans h
            have z := ih a0 a1 (a3 + (1 : Int32)) M8 hB ra0 h
            exact ⟨hS.tr z.1, z.2⟩
          · have h := (if_neg hc).symm.trans h
            obtain ⟨hz, rfl⟩ := rN_some h
            exact ⟨hS, hB⟩
theorem oX8_isRight (fu : Nat)   (a0 : Nat)  (M : Mm) {out : Int32 × Mm} (hB : Bd RX TX M) (ra0 : RX a0) (h : fX8_isRight fu  a0 M = some out) : Sm RX M out.2 ∧ Bd RX TX out.2 := by
  unfold fX8_isRight at h
  have hS : Sm RX M M := Sm.rf
  obtain ⟨v1, ev1, h⟩ := bd h
  have iv1 := gR_in hB (show 8 ≤ 11 from by decide) ev1
  obtain ⟨v3, M2, eM2, h⟩ := b2d h
  have w := oX11_four fu  v1 (0 : Int32) M hB iv1 eM2
  have hS := hS.tr w.1
  have hB := w.2
  by_cases hc : v3 = (1398034258 : Int32)
  · have h := (if_pos hc).symm.trans h
    obtain ⟨v4, ev4, h⟩ := bd h
    have iv4 := gR_in hB (show 8 ≤ 11 from by decide) ev4
    obtain ⟨v6, M5, eM5, h⟩ := b2d h
    have w := oX11_two fu  v4 (6 : Int32) M2 hB iv4 eM5
    have hS := hS.tr w.1
    have hB := w.2
    by_cases hc : v6 = 0
    · have h := (if_pos hc).symm.trans h
      obtain ⟨v7, ev7, h⟩ := bd h
      have iv7 := gR_in hB (show 8 ≤ 11 from by decide) ev7
      obtain ⟨v9, M8, eM8, h⟩ := b2d h
      have w := oX11_two fu  v7 (4 : Int32) M5 hB iv7 eM8
      have hS := hS.tr w.1
      have hB := w.2
      by_cases hc : (64 : Int32) < v9
      · have h := (if_pos hc).symm.trans h
        obtain ⟨hz, rfl⟩ := rN_some h
        exact ⟨hS, hB⟩
      · have h := (if_neg hc).symm.trans h
        obtain ⟨v10, ev10, h⟩ := bd h
        have iv10 := gR_in hB (show 8 ≤ 11 from by decide) ev10
        obtain ⟨v11, ev11, h⟩ := bd h
        by_cases hc : v11 < (((8 : Int32) + ((64 : Int32) * v9)) + (4 : Int32))
        · have h := (if_pos hc).symm.trans h
          obtain ⟨hz, rfl⟩ := rN_some h
          exact ⟨hS, hB⟩
        · have h := (if_neg hc).symm.trans h
          obtain ⟨v12, ev12, h⟩ := bd h
          have iv12 := gR_in hB (show 8 ≤ 11 from by decide) ev12
          obtain ⟨v14, M13, eM13, h⟩ := b2d h
          have w := oX11_four fu  v12 ((8 : Int32) + ((64 : Int32) * v9)) M8 hB iv12 eM13
          have hS := hS.tr w.1
          have hB := w.2
          obtain ⟨q15, eq15, h⟩ := bd h
          have rq15 := rc_in hB (show 8 ≤ 11 from by decide) eq15
          obtain ⟨v17, M16, eM16, h⟩ := b2d h
          have w := oX8_checkOf fu q15 (0 : Int32) ((8 : Int32) + ((64 : Int32) * v9)) M13 hB rq15 eM16
          have hS := hS.tr w.1
          have hB := w.2
          by_cases hc : v14 = v17
          · have h := (if_pos hc).symm.trans h
            have z := oX8_isRight_L82 fu   fu a0 v9 (0 : Int32) M16 hB ra0 h
            exact ⟨hS.tr z.1, z.2⟩
          · have h := (if_neg hc).symm.trans h
            obtain ⟨hz, rfl⟩ := rN_some h
            exact ⟨hS, hB⟩
    · have h := (if_neg hc).symm.trans h
      obtain ⟨hz, rfl⟩ := rN_some h
      exact ⟨hS, hB⟩
  · have h := (if_neg hc).symm.trans h
    obtain ⟨hz, rfl⟩ := rN_some h
    exact ⟨hS, hB⟩
theorem oX8_keepEntries_L49 (fu : Nat)   (a0 : Nat) (a1 : Int32) (a2 : Int32)  (M : Mm) {out : Mm} (hB : Bd RX TX M) (ra0 : RX a0) (h : fX8_keepEntries_L49 fu  a0 a1 a2 M = some out) : Sm RX M out ∧ Bd RX TX out := by
  unfold fX8_keepEntries_L49 at h
  have hS : Sm RX M M := Sm.rf
  obtain ⟨v1, ev1, h⟩ := bd h
  have iv1 := gR_in hB (show 8 ≤ 11 from by decide) ev1
  obtain ⟨v2, ev2, h⟩ := bd h
  have iv2 := gR_in hB (show 8 ≤ 11 from by decide) ev2
  obtain ⟨M3, eM3, h⟩ := bd h
  have w := cpB_own hB iv2 eM3
  have hS := hS.tr w.1
  have hB := w.2
  obtain ⟨M4, eM4, h⟩ := bd h
  have w := pF_own hB (show 8 ≤ 11 from by decide) eM4
  have hS := hS.tr w.1
  have hB := w.2
  obtain rfl := Option.some.inj h
  exact ⟨hS, hB⟩
theorem oX8_keepEntries (fu : Nat)   (a0 : Nat)  (M : Mm) {out : Mm} (hB : Bd RX TX M) (ra0 : RX a0) (h : fX8_keepEntries fu  a0 M = some out) : Sm RX M out ∧ Bd RX TX out := by
  unfold fX8_keepEntries at h
  have hS : Sm RX M M := Sm.rf
  obtain ⟨v1, ev1, h⟩ := bd h
  have iv1 := gR_in hB (show 8 ≤ 11 from by decide) ev1
  obtain ⟨v3, M2, eM2, h⟩ := b2d h
  have w := oX11_two fu  v1 (4 : Int32) M hB iv1 eM2
  have hS := hS.tr w.1
  have hB := w.2
  by_cases hc : (64 : Int32) < v3
  · have h := (if_pos hc).symm.trans h
    obtain rfl := Option.some.inj h
    exact ⟨hS, hB⟩
  · have h := (if_neg hc).symm.trans h
    obtain ⟨v4, ev4, h⟩ := bd h
    have iv4 := gR_in hB (show 8 ≤ 11 from by decide) ev4
    obtain ⟨v5, ev5, h⟩ := bd h
    by_cases hc : ((8 : Int32) + (v3 * (64 : Int32))) ≤ v5
    · have h := (if_pos hc).symm.trans h
      obtain ⟨v6, ev6, h⟩ := bd h
      have iv6 := gR_in hB (show 8 ≤ 11 from by decide) ev6
      obtain ⟨v7, ev7, h⟩ := bd h
      by_cases hc : (v3 * (64 : Int32)) ≤ v7
      · have h := (if_pos hc).symm.trans h
        have z := oX8_keepEntries_L49 fu   a0 v3 (v3 * (64 : Int32)) M2 hB ra0 h
        exact ⟨hS.tr z.1, z.2⟩
      · have h := (if_neg hc).symm.trans h
        obtain ⟨v8, M9, eM9, h⟩ := b2d h
        have w := mkA_own hB (by decide) eM9
        have hS := hS.tr w.1
        have rv8 := w.2.2
        have hB := w.2.1
        obtain ⟨M10, eM10, h⟩ := bd h
        have w := pG_own hB (show 8 ≤ 11 from by decide) (inR_some rv8) eM10
        have hS := hS.tr w.1
        have hB := w.2
        have z := oX8_keepEntries_L49 fu   a0 v3 (v3 * (64 : Int32)) M10 hB ra0 h
        exact ⟨hS.tr z.1, z.2⟩
    · have h := (if_neg hc).symm.trans h
      obtain rfl := Option.some.inj h
      exact ⟨hS, hB⟩
theorem oX9_init (fu : Nat)   (a0 : Nat) (a1 : Option Nat) (a2 : Option Nat) (a3 : Option Nat) (a4 : Option Nat)  (M : Mm) {out : Mm} (hB : Bd RX TX M) (ra0 : RX a0) (ia1 : inR RX a1) (ia2 : inR RX a2) (ia3 : inR RX a3) (ia4 : inR RX a4) (h : fX9_init fu  a0 a1 a2 a3 a4 M = some out) : Sm RX M out ∧ Bd RX TX out := by
  unfold fX9_init at h
  have hS : Sm RX M M := Sm.rf
  obtain ⟨M1, eM1, h⟩ := bd h
  have w := pG_own hB (show 9 ≤ 11 from by decide) ia1 eM1
  have hS := hS.tr w.1
  have hB := w.2
  obtain ⟨M2, eM2, h⟩ := bd h
  have w := pG_own hB (show 9 ≤ 11 from by decide) ia2 eM2
  have hS := hS.tr w.1
  have hB := w.2
  obtain ⟨M3, eM3, h⟩ := bd h
  have w := pG_own hB (show 9 ≤ 11 from by decide) ia3 eM3
  have hS := hS.tr w.1
  have hB := w.2
  obtain ⟨M4, eM4, h⟩ := bd h
  have w := pG_own hB (show 9 ≤ 11 from by decide) ia4 eM4
  have hS := hS.tr w.1
  have hB := w.2
  obtain ⟨v5, M6, eM6, h⟩ := b2d h
  have w := mkA_own hB (by decide) eM6
  have hS := hS.tr w.1
  have rv5 := w.2.2
  have hB := w.2.1
  obtain ⟨M7, eM7, h⟩ := bd h
  have w := pG_own hB (show 9 ≤ 11 from by decide) (inR_some rv5) eM7
  have hS := hS.tr w.1
  have hB := w.2
  obtain rfl := Option.some.inj h
  exact ⟨hS, hB⟩
theorem oX9_restart_L23 (fu : Nat) {out : Mm} (k2 : Nat → Int32 → Mm → Option (Mm)) (hk2 : ∀ (b0 : Nat) (b1 : Int32)  (M : Mm), Bd RX TX M → RX b0 → k2 b0 b1 M = some out → Sm RX M out ∧ Bd RX TX out) (a0 : Nat) (a1 : Int32)  (M : Mm) (hB : Bd RX TX M) (ra0 : RX a0) (h : fX9_restart_L23 fu k2 a0 a1 M = some out) : Sm RX M out ∧ Bd RX TX out := by
  unfold fX9_restart_L23 at h
  have hS : Sm RX M M := Sm.rf
  have z := hk2 a0 (a1 + (1 : Int32)) M hB ra0 h
  exact ⟨hS.tr z.1, z.2⟩
theorem oX9_restart_L2 (fu : Nat) {out : Mm}   : ∀ (n : Nat) (a0 : Nat) (a1 : Int32)  (M : Mm), Bd RX TX M → RX a0 → fX9_restart_L2 fu  n a0 a1 M = some out → Sm RX M out ∧ Bd RX TX out := by
  intro n
  induction n with
  | zero =>
    intro a0 a1 M hB ra0 h
    have h : (none : Option (Mm)) = some out := h
    cases h
  | succ n ih =>
    intro a0 a1 M hB ra0 h
    rw [fX9_restart_L2] at h
    have hS : Sm RX M M := Sm.rf
    by_cases hc : (16 : Int32) ≤ a1
    · have h := (if_pos hc).symm.trans h
      obtain rfl := Option.some.inj h
      exact ⟨hS, hB⟩
    · have h := (if_neg hc).symm.trans h
      obtain ⟨v1, ev1, h⟩ := bd h
      have iv1 := gR_in hB (show 9 ≤ 11 from by decide) ev1
      obtain ⟨v2, ev2, h⟩ := bd h
      have iv2 := gB_in hB iv1 ev2
      by_cases hc : v2 = none
      · have h := (if_pos hc).symm.trans h
        have z := oX9_restart_L23 fu (fun b0 b1 M => fX9_restart_L2 fu  n b0 b1 M) ih a0 a1 M hB ra0 h
        exact ⟨hS.tr z.1, z.2⟩
      · have h := (if_neg hc).symm.trans h
        obtain ⟨q3, eq3, h⟩ := bd h
        have rq3 := rc_in hB (show 1 ≤ 11 from by decide) eq3
        obtain ⟨M4, eM4, h⟩ := bd h
        have w := oX1_leave fu q3  M hB rq3 eM4
        have hS := hS.tr w.1
        have hB := w.2
        have z := oX9_restart_L23 fu (fun b0 b1 M => fX9_restart_L2 fu  n b0 b1 M) ih a0 a1 M4 hB ra0 h
        exact ⟨hS.tr z.1, z.2⟩
theorem oX9_restart (fu : Nat)   (a0 : Nat)  (M : Mm) {out : Mm} (hB : Bd RX TX M) (ra0 : RX a0) (h : fX9_restart fu  a0 M = some out) : Sm RX M out ∧ Bd RX TX out := by
  unfold fX9_restart at h
  have hS : Sm RX M M := Sm.rf
  have z := oX9_restart_L2 fu   fu a0 (0 : Int32) M hB ra0 h
  exact ⟨hS.tr z.1, z.2⟩
theorem oX9_connectionAt (fu : Nat)   (a0 : Nat) (a1 : Int32)  (M : Mm) {out : Option Nat × Mm} (hB : Bd RX TX M) (ra0 : RX a0) (h : fX9_connectionAt fu  a0 a1 M = some out) : Sm RX M out.2 ∧ Bd RX TX out.2 ∧ inR RX out.1 := by
  unfold fX9_connectionAt at h
  have hS : Sm RX M M := Sm.rf
  by_cases hc : a1 < 0
  · have h := (if_pos hc).symm.trans h
    obtain rfl := Option.some.inj h
    exact ⟨hS, hB, inR_none⟩
  · have h := (if_neg hc).symm.trans h
    by_cases hc : a1 < (16 : Int32)
    · have h := (if_pos hc).symm.trans h
      obtain ⟨v1, ev1, h⟩ := bd h
      have iv1 := gR_in hB (show 9 ≤ 11 from by decide) ev1
      obtain ⟨v2, ev2, h⟩ := bd h
      have iv2 := gB_in hB iv1 ev2
      by_cases hc : v2 = none
      · have h := (if_pos hc).symm.trans h
        obtain rfl := Option.some.inj h
        exact ⟨hS, hB, inR_none⟩
      · have h := (if_neg hc).symm.trans h
        obtain ⟨v3, ev3, h⟩ := bd h
        by_cases hc : v3 = 0
        · have h := (if_pos hc).symm.trans h
          obtain rfl := Option.some.inj h
          exact ⟨hS, hB, inR_none⟩
        · have h := (if_neg hc).symm.trans h
          obtain rfl := Option.some.inj h
          exact ⟨hS, hB, iv2⟩
    · have h := (if_neg hc).symm.trans h
      obtain rfl := Option.some.inj h
      exact ⟨hS, hB, inR_none⟩
theorem oX9_isBusy_L27 (fu : Nat) {out : Int32 × Mm} (k2 : Nat → Int32 → Mm → Option (Int32 × Mm)) (hk2 : ∀ (b0 : Nat) (b1 : Int32)  (M : Mm), Bd RX TX M → RX b0 → k2 b0 b1 M = some out → Sm RX M out.2 ∧ Bd RX TX out.2) (a0 : Nat) (a1 : Int32)  (M : Mm) (hB : Bd RX TX M) (ra0 : RX a0) (h : fX9_isBusy_L27 fu k2 a0 a1 M = some out) : Sm RX M out.2 ∧ Bd RX TX out.2 := by
  unfold fX9_isBusy_L27 at h
  have hS : Sm RX M M := Sm.rf
  have z := hk2 a0 (a1 + (1 : Int32)) M hB ra0 h
  exact ⟨hS.tr z.1, z.2⟩
theorem oX9_isBusy_L2 (fu : Nat) {out : Int32 × Mm}   : ∀ (n : Nat) (a0 : Nat) (a1 : Int32)  (M : Mm), Bd RX TX M → RX a0 → fX9_isBusy_L2 fu  n a0 a1 M = some out → Sm RX M out.2 ∧ Bd RX TX out.2 := by
  intro n
  induction n with
  | zero =>
    intro a0 a1 M hB ra0 h
    have h : (none : Option (Int32 × Mm)) = some out := h
    cases h
  | succ n ih =>
    intro a0 a1 M hB ra0 h
    rw [fX9_isBusy_L2] at h
    have hS : Sm RX M M := Sm.rf
    by_cases hc : (16 : Int32) ≤ a1
    · have h := (if_pos hc).symm.trans h
      obtain ⟨hz, rfl⟩ := rN_some h
      exact ⟨hS, hB⟩
    · have h := (if_neg hc).symm.trans h
      obtain ⟨q1, eq1, h⟩ := bd h
      have rq1 := rc_in hB (show 9 ≤ 11 from by decide) eq1
      obtain ⟨v3, M2, eM2, h⟩ := b2d h
      have w := oX9_connectionAt fu q1 a1 M hB rq1 eM2
      have hS := hS.tr w.1
      have iv3 := w.2.2
      have hB := w.2.1
      by_cases hc : v3 = none
      · have h := (if_pos hc).symm.trans h
        have z := oX9_isBusy_L27 fu (fun b0 b1 M => fX9_isBusy_L2 fu  n b0 b1 M) ih a0 a1 M2 hB ra0 h
        exact ⟨hS.tr z.1, z.2⟩
      · have h := (if_neg hc).symm.trans h
        obtain ⟨q4, eq4, h⟩ := bd h
        have rq4 := rc_in hB (show 1 ≤ 11 from by decide) eq4
        obtain ⟨v6, M5, eM5, h⟩ := b2d h
        have w := oX1_isBusy fu q4  M2 hB rq4 eM5
        have hS := hS.tr w.1
        have hB := w.2
        by_cases hc : v6 = 0
        · have h := (if_pos hc).symm.trans h
          have z := oX9_isBusy_L27 fu (fun b0 b1 M => fX9_isBusy_L2 fu  n b0 b1 M) ih a0 a1 M5 hB ra0 h
          exact ⟨hS.tr z.1, z.2⟩
        · have h := (if_neg hc).symm.trans h
          obtain ⟨hz, rfl⟩ := rN_some h
          exact ⟨hS, hB⟩
theorem oX9_isBusy (fu : Nat)   (a0 : Nat)  (M : Mm) {out : Int32 × Mm} (hB : Bd RX TX M) (ra0 : RX a0) (h : fX9_isBusy fu  a0 M = some out) : Sm RX M out.2 ∧ Bd RX TX out.2 := by
  unfold fX9_isBusy at h
  have hS : Sm RX M M := Sm.rf
  have z := oX9_isBusy_L2 fu   fu a0 (0 : Int32) M hB ra0 h
  exact ⟨hS.tr z.1, z.2⟩
theorem oX9_earliest_L40 (fu : Nat) {out : Int32 × Mm} (k5 : Nat → Int32 → Int32 → Mm → Option (Int32 × Mm)) (hk5 : ∀ (b0 : Nat) (b1 : Int32) (b2 : Int32)  (M : Mm), Bd RX TX M → RX b0 → k5 b0 b1 b2 M = some out → Sm RX M out.2 ∧ Bd RX TX out.2) (a0 : Nat) (a1 : Int32) (a2 : Int32)  (M : Mm) (hB : Bd RX TX M) (ra0 : RX a0) (h : fX9_earliest_L40 fu k5 a0 a1 a2 M = some out) : Sm RX M out.2 ∧ Bd RX TX out.2 := by
  unfold fX9_earliest_L40 at h
  have hS : Sm RX M M := Sm.rf
  have z := hk5 a0 a1 (a2 + (1 : Int32)) M hB ra0 h
  exact ⟨hS.tr z.1, z.2⟩
theorem oX9_earliest_L5 (fu : Nat) {out : Int32 × Mm}   : ∀ (n : Nat) (a0 : Nat) (a1 : Int32) (a2 : Int32)  (M : Mm), Bd RX TX M → RX a0 → fX9_earliest_L5 fu  n a0 a1 a2 M = some out → Sm RX M out.2 ∧ Bd RX TX out.2 := by
  intro n
  induction n with
  | zero =>
    intro a0 a1 a2 M hB ra0 h
    have h : (none : Option (Int32 × Mm)) = some out := h
    cases h
  | succ n ih =>
    intro a0 a1 a2 M hB ra0 h
    rw [fX9_earliest_L5] at h
    have hS : Sm RX M M := Sm.rf
    by_cases hc : (16 : Int32) ≤ a2
    · have h := (if_pos hc).symm.trans h
      obtain rfl := Option.some.inj h
      exact ⟨hS, hB⟩
    · have h := (if_neg hc).symm.trans h
      obtain ⟨q1, eq1, h⟩ := bd h
      have rq1 := rc_in hB (show 9 ≤ 11 from by decide) eq1
      obtain ⟨v3, M2, eM2, h⟩ := b2d h
      have w := oX9_connectionAt fu q1 a2 M hB rq1 eM2
      have hS := hS.tr w.1
      have iv3 := w.2.2
      have hB := w.2.1
      by_cases hc : v3 = none
      · have h := (if_pos hc).symm.trans h
        have z := oX9_earliest_L40 fu (fun b0 b1 b2 M => fX9_earliest_L5 fu  n b0 b1 b2 M) ih a0 a1 a2 M2 hB ra0 h
        exact ⟨hS.tr z.1, z.2⟩
      · have h := (if_neg hc).symm.trans h
        obtain ⟨v4, ev4, h⟩ := bd h
        have iv4 := gR_in hB (show 1 ≤ 11 from by decide) ev4
        obtain ⟨v5, ev5, h⟩ := bd h
        obtain ⟨q6, eq6, h⟩ := bd h
        have rq6 := rc_in hB (show 1 ≤ 11 from by decide) eq6
        obtain ⟨v8, M7, eM7, h⟩ := b2d h
        have w := oX1_lifeDue fu q6  M2 hB rq6 eM7
        have hS := hS.tr w.1
        have hB := w.2
        have z := oX9_earliest_L40 fu (fun b0 b1 b2 M => fX9_earliest_L5 fu  n b0 b1 b2 M) ih a0 (jmin a1 (jmin v5 v8)) a2 M7 hB ra0 h
        exact ⟨hS.tr z.1, z.2⟩
theorem oX9_earliest (fu : Nat)   (a0 : Nat)  (M : Mm) {out : Int32 × Mm} (hB : Bd RX TX M) (ra0 : RX a0) (h : fX9_earliest fu  a0 M = some out) : Sm RX M out.2 ∧ Bd RX TX out.2 := by
  unfold fX9_earliest at h
  have hS : Sm RX M M := Sm.rf
  have z := oX9_earliest_L5 fu   fu a0 (2147483647 : Int32) (0 : Int32) M hB ra0 h
  exact ⟨hS.tr z.1, z.2⟩
theorem oX9_dueFirst_L39 (fu : Nat) {out : Option Nat × Mm} (k2 : Nat → Int32 → Int32 → Mm → Option (Option Nat × Mm)) (hk2 : ∀ (b0 : Nat) (b1 : Int32) (b2 : Int32)  (M : Mm), Bd RX TX M → RX b0 → k2 b0 b1 b2 M = some out → Sm RX M out.2 ∧ Bd RX TX out.2 ∧ inR RX out.1) (a0 : Nat) (a1 : Int32) (a2 : Int32)  (M : Mm) (hB : Bd RX TX M) (ra0 : RX a0) (h : fX9_dueFirst_L39 fu k2 a0 a1 a2 M = some out) : Sm RX M out.2 ∧ Bd RX TX out.2 ∧ inR RX out.1 := by
  unfold fX9_dueFirst_L39 at h
  have hS : Sm RX M M := Sm.rf
  have z := hk2 a0 a1 (a2 + (1 : Int32)) M hB ra0 h
  exact ⟨hS.tr z.1, z.2⟩
theorem oX9_dueFirst_L2 (fu : Nat) {out : Option Nat × Mm}   : ∀ (n : Nat) (a0 : Nat) (a1 : Int32) (a2 : Int32)  (M : Mm), Bd RX TX M → RX a0 → fX9_dueFirst_L2 fu  n a0 a1 a2 M = some out → Sm RX M out.2 ∧ Bd RX TX out.2 ∧ inR RX out.1 := by
  intro n
  induction n with
  | zero =>
    intro a0 a1 a2 M hB ra0 h
    have h : (none : Option (Option Nat × Mm)) = some out := h
    cases h
  | succ n ih =>
    intro a0 a1 a2 M hB ra0 h
    rw [fX9_dueFirst_L2] at h
    have hS : Sm RX M M := Sm.rf
    by_cases hc : (16 : Int32) ≤ a2
    · have h := (if_pos hc).symm.trans h
      obtain rfl := Option.some.inj h
      exact ⟨hS, hB, inR_none⟩
    · have h := (if_neg hc).symm.trans h
      obtain ⟨q1, eq1, h⟩ := bd h
      have rq1 := rc_in hB (show 9 ≤ 11 from by decide) eq1
      obtain ⟨v3, M2, eM2, h⟩ := b2d h
      have w := oX9_connectionAt fu q1 a2 M hB rq1 eM2
      have hS := hS.tr w.1
      have iv3 := w.2.2
      have hB := w.2.1
      by_cases hc : v3 = none
      · have h := (if_pos hc).symm.trans h
        have z := oX9_dueFirst_L39 fu (fun b0 b1 b2 M => fX9_dueFirst_L2 fu  n b0 b1 b2 M) ih a0 a1 a2 M2 hB ra0 h
        exact ⟨hS.tr z.1, z.2⟩
      · have h := (if_neg hc).symm.trans h
        obtain ⟨v4, ev4, h⟩ := bd h
        have iv4 := gR_in hB (show 1 ≤ 11 from by decide) ev4
        obtain ⟨v5, ev5, h⟩ := bd h
        by_cases hc : v5 = a1
        · have h := (if_pos hc).symm.trans h
          obtain rfl := Option.some.inj h
          exact ⟨hS, hB, iv3⟩
        · have h := (if_neg hc).symm.trans h
          obtain ⟨q6, eq6, h⟩ := bd h
          have rq6 := rc_in hB (show 1 ≤ 11 from by decide) eq6
          obtain ⟨v8, M7, eM7, h⟩ := b2d h
          have w := oX1_lifeDue fu q6  M2 hB rq6 eM7
          have hS := hS.tr w.1
          have hB := w.2
          by_cases hc : v8 = a1
          · have h := (if_pos hc).symm.trans h
            obtain rfl := Option.some.inj h
            exact ⟨hS, hB, iv3⟩
          · have h := (if_neg hc).symm.trans h
            have z := oX9_dueFirst_L39 fu (fun b0 b1 b2 M => fX9_dueFirst_L2 fu  n b0 b1 b2 M) ih a0 a1 a2 M7 hB ra0 h
            exact ⟨hS.tr z.1, z.2⟩
theorem oX9_dueFirst (fu : Nat)   (a0 : Nat) (a1 : Int32)  (M : Mm) {out : Option Nat × Mm} (hB : Bd RX TX M) (ra0 : RX a0) (h : fX9_dueFirst fu  a0 a1 M = some out) : Sm RX M out.2 ∧ Bd RX TX out.2 ∧ inR RX out.1 := by
  unfold fX9_dueFirst at h
  have hS : Sm RX M M := Sm.rf
  have z := oX9_dueFirst_L2 fu   fu a0 a1 (0 : Int32) M hB ra0 h
  exact ⟨hS.tr z.1, z.2⟩
theorem oX9_connectionOfSegment_L60 (fu : Nat) {out : Option Nat × Mm} (k2 : Nat → Int32 → Mm → Option (Option Nat × Mm)) (hk2 : ∀ (b0 : Nat) (b1 : Int32)  (M : Mm), Bd RX TX M → RX b0 → k2 b0 b1 M = some out → Sm RX M out.2 ∧ Bd RX TX out.2 ∧ inR RX out.1) (a0 : Nat) (a1 : Int32)  (M : Mm) (hB : Bd RX TX M) (ra0 : RX a0) (h : fX9_connectionOfSegment_L60 fu k2 a0 a1 M = some out) : Sm RX M out.2 ∧ Bd RX TX out.2 ∧ inR RX out.1 := by
  unfold fX9_connectionOfSegment_L60 at h
  have hS : Sm RX M M := Sm.rf
  have z := hk2 a0 (a1 + (1 : Int32)) M hB ra0 h
  exact ⟨hS.tr z.1, z.2⟩
theorem oX9_connectionOfSegment_L2 (fu : Nat) {out : Option Nat × Mm}   : ∀ (n : Nat) (a0 : Nat) (a1 : Int32)  (M : Mm), Bd RX TX M → RX a0 → fX9_connectionOfSegment_L2 fu  n a0 a1 M = some out → Sm RX M out.2 ∧ Bd RX TX out.2 ∧ inR RX out.1 := by
  intro n
  induction n with
  | zero =>
    intro a0 a1 M hB ra0 h
    have h : (none : Option (Option Nat × Mm)) = some out := h
    cases h
  | succ n ih =>
    intro a0 a1 M hB ra0 h
    rw [fX9_connectionOfSegment_L2] at h
    have hS : Sm RX M M := Sm.rf
    by_cases hc : (16 : Int32) ≤ a1
    · have h := (if_pos hc).symm.trans h
      obtain rfl := Option.some.inj h
      exact ⟨hS, hB, inR_none⟩
    · have h := (if_neg hc).symm.trans h
      obtain ⟨v1, ev1, h⟩ := bd h
      have iv1 := gR_in hB (show 9 ≤ 11 from by decide) ev1
      obtain ⟨v2, ev2, h⟩ := bd h
      by_cases hc : v2 = (80 : Int32)
      · have h := (if_pos hc).symm.trans h
        obtain ⟨q3, eq3, h⟩ := bd h
        have rq3 := rc_in hB (show 9 ≤ 11 from by decide) eq3
        obtain ⟨v5, M4, eM4, h⟩ := b2d h
        have w := oX9_connectionAt fu q3 a1 M hB rq3 eM4
        have hS := hS.tr w.1
        have iv5 := w.2.2
        have hB := w.2.1
        by_cases hc : v5 = none
        · have h := (if_pos hc).symm.trans h
          have z := oX9_connectionOfSegment_L60 fu (fun b0 b1 M => fX9_connectionOfSegment_L2 fu  n b0 b1 M) ih a0 a1 M4 hB ra0 h
          exact ⟨hS.tr z.1, z.2⟩
        · have h := (if_neg hc).symm.trans h
          obtain ⟨v6, ev6, h⟩ := bd h
          obtain ⟨v7, ev7, h⟩ := bd h
          have iv7 := gR_in hB (show 9 ≤ 11 from by decide) ev7
          obtain ⟨v8, ev8, h⟩ := bd h
          by_cases hc : v6 = v8
          · have h := (if_pos hc).symm.trans h
            obtain ⟨v9, ev9, h⟩ := bd h
            obtain ⟨v10, ev10, h⟩ := bd h
            have iv10 := gR_in hB (show 9 ≤ 11 from by decide) ev10
            obtain ⟨v11, ev11, h⟩ := bd h
            by_cases hc : v9 = v11
            · have h := (if_pos hc).symm.trans h
              obtain rfl := Option.some.inj h
              exact ⟨hS, hB, iv5⟩
            · have h := (if_neg hc).symm.trans h
              have z := oX9_connectionOfSegment_L60 fu (fun b0 b1 M => fX9_connectionOfSegment_L2 fu  n b0 b1 M) ih a0 a1 M4 hB ra0 h
              exact ⟨hS.tr z.1, z.2⟩
          · have h := (if_neg hc).symm.trans h
            have z := oX9_connectionOfSegment_L60 fu (fun b0 b1 M => fX9_connectionOfSegment_L2 fu  n b0 b1 M) ih a0 a1 M4 hB ra0 h
            exact ⟨hS.tr z.1, z.2⟩
      · have h := (if_neg hc).symm.trans h
        obtain rfl := Option.some.inj h
        exact ⟨hS, hB, inR_none⟩
theorem oX9_connectionOfSegment (fu : Nat)   (a0 : Nat)  (M : Mm) {out : Option Nat × Mm} (hB : Bd RX TX M) (ra0 : RX a0) (h : fX9_connectionOfSegment fu  a0 M = some out) : Sm RX M out.2 ∧ Bd RX TX out.2 ∧ inR RX out.1 := by
  unfold fX9_connectionOfSegment at h
  have hS : Sm RX M M := Sm.rf
  have z := oX9_connectionOfSegment_L2 fu   fu a0 (0 : Int32) M hB ra0 h
  exact ⟨hS.tr z.1, z.2⟩
theorem oX9_fillHeader (fu : Nat)   (a0 : Nat) (a1 : Int32) (a2 : Int32) (a3 : Int32) (a4 : Int32) (a5 : Int32) (a6 : Int32)  (M : Mm) {out : Mm} (hB : Bd RX TX M) (ra0 : RX a0) (h : fX9_fillHeader fu  a0 a1 a2 a3 a4 a5 a6 M = some out) : Sm RX M out ∧ Bd RX TX out := by
  unfold fX9_fillHeader at h
  have hS : Sm RX M M := Sm.rf
  obtain ⟨v1, ev1, h⟩ := bd h
  have iv1 := gR_in hB (show 9 ≤ 11 from by decide) ev1
  obtain ⟨v2, ev2, h⟩ := bd h
  have iv2 := gR_in hB (show 4 ≤ 11 from by decide) ev2
  obtain ⟨M3, eM3, h⟩ := bd h
  have w := oX11_putTwo fu  v2 (34 : Int32) a1 M hB iv2 eM3
  have hS := hS.tr w.1
  have hB := w.2
  obtain ⟨M4, eM4, h⟩ := bd h
  have w := oX11_putTwo fu  v2 (36 : Int32) a2 M3 hB iv2 eM4
  have hS := hS.tr w.1
  have hB := w.2
  obtain ⟨M5, eM5, h⟩ := bd h
  have w := oX11_putFour fu  v2 (38 : Int32) a3 M4 hB iv2 eM5
  have hS := hS.tr w.1
  have hB := w.2
  obtain ⟨M6, eM6, h⟩ := bd h
  have w := oX11_putFour fu  v2 (42 : Int32) a4 M5 hB iv2 eM6
  have hS := hS.tr w.1
  have hB := w.2
  obtain ⟨M7, eM7, h⟩ := bd h
  have w := oX11_putTwo fu  v2 (46 : Int32) ((20480 : Int32) ||| a5) M6 hB iv2 eM7
  have hS := hS.tr w.1
  have hB := w.2
  obtain ⟨M8, eM8, h⟩ := bd h
  have w := oX11_putTwo fu  v2 (48 : Int32) a6 M7 hB iv2 eM8
  have hS := hS.tr w.1
  have hB := w.2
  obtain ⟨M9, eM9, h⟩ := bd h
  have w := oX11_putFour fu  v2 (50 : Int32) (0 : Int32) M8 hB iv2 eM9
  have hS := hS.tr w.1
  have hB := w.2
  obtain rfl := Option.some.inj h
  exact ⟨hS, hB⟩
theorem oX9_sumUp (fu : Nat)   (a0 : Nat) (a1 : Int32) (a2 : Int32)  (M : Mm) {out : Mm} (hB : Bd RX TX M) (ra0 : RX a0) (h : fX9_sumUp fu  a0 a1 a2 M = some out) : Sm RX M out ∧ Bd RX TX out := by
  unfold fX9_sumUp at h
  have hS : Sm RX M M := Sm.rf
  obtain ⟨v1, ev1, h⟩ := bd h
  have iv1 := gR_in hB (show 9 ≤ 11 from by decide) ev1
  obtain ⟨v2, ev2, h⟩ := bd h
  have iv2 := gR_in hB (show 4 ≤ 11 from by decide) ev2
  obtain ⟨v3, ev3, h⟩ := bd h
  have iv3 := gR_in hB (show 9 ≤ 11 from by decide) ev3
  obtain ⟨v4, ev4, h⟩ := bd h
  obtain ⟨v6, M5, eM5, h⟩ := b2d h
  have w := oX11_pseudoSum fu  v4 a1 a2 M hB  eM5
  have hS := hS.tr w.1
  have hB := w.2
  obtain ⟨v8, M7, eM7, h⟩ := b2d h
  have w := oX11_added fu  v2 (34 : Int32) a2 v6 M5 hB iv2 eM7
  have hS := hS.tr w.1
  have hB := w.2
  obtain ⟨v9, ev9, h⟩ := bd h
  have iv9 := gR_in hB (show 9 ≤ 11 from by decide) ev9
  obtain ⟨v10, ev10, h⟩ := bd h
  have iv10 := gR_in hB (show 4 ≤ 11 from by decide) ev10
  obtain ⟨M11, eM11, h⟩ := bd h
  have w := oX11_putTwo fu  v10 (50 : Int32) (v8 ^^^ (-1 : Int32)) M7 hB iv10 eM11
  have hS := hS.tr w.1
  have hB := w.2
  obtain rfl := Option.some.inj h
  exact ⟨hS, hB⟩
theorem oX9_reset_L93 (fu : Nat)   (a0 : Nat)  (M : Mm) {out : Mm} (hB : Bd RX TX M) (ra0 : RX a0) (h : fX9_reset_L93 fu  a0 M = some out) : Sm RX M out ∧ Bd RX TX out := by
  unfold fX9_reset_L93 at h
  have hS : Sm RX M M := Sm.rf
  obtain ⟨v1, ev1, h⟩ := bd h
  have iv1 := gR_in hB (show 9 ≤ 11 from by decide) ev1
  obtain ⟨v2, ev2, h⟩ := bd h
  obtain ⟨q3, eq3, h⟩ := bd h
  have rq3 := rc_in hB (show 9 ≤ 11 from by decide) eq3
  obtain ⟨M4, eM4, h⟩ := bd h
  have w := oX9_sumUp fu q3 v2 (20 : Int32) M hB rq3 eM4
  have hS := hS.tr w.1
  have hB := w.2
  obtain ⟨v5, ev5, h⟩ := bd h
  have iv5 := gR_in hB (show 9 ≤ 11 from by decide) ev5
  obtain ⟨v6, ev6, h⟩ := bd h
  have iv6 := gR_in hB (show 9 ≤ 11 from by decide) ev6
  obtain ⟨v7, ev7, h⟩ := bd h
  obtain ⟨q8, eq8, h⟩ := bd h
  have rq8 := rc_in hB (show 4 ≤ 11 from by decide) eq8
  obtain ⟨M9, eM9, h⟩ := bd h
  have w := oX4_send fu q8 v7 (6 : Int32) (20 : Int32) M4 hB rq8 eM9
  have hS := hS.tr w.1
  have hB := w.2
  obtain rfl := Option.some.inj h
  exact ⟨hS, hB⟩
theorem oX9_reset (fu : Nat)   (a0 : Nat)  (M : Mm) {out : Mm} (hB : Bd RX TX M) (ra0 : RX a0) (h : fX9_reset fu  a0 M = some out) : Sm RX M out ∧ Bd RX TX out := by
  unfold fX9_reset at h
  have hS : Sm RX M M := Sm.rf
  obtain ⟨v1, ev1, h⟩ := bd h
  have iv1 := gR_in hB (show 9 ≤ 11 from by decide) ev1
  obtain ⟨v2, ev2, h⟩ := bd h
  have iv2 := gR_in hB (show 10 ≤ 11 from by decide) ev2
  obtain ⟨v3, ev3, h⟩ := bd h
  obtain ⟨M4, eM4, h⟩ := bd h
  have w := pA_own hB iv2 (by decide) eM4
  have hS := hS.tr w.1
  have hB := w.2
  obtain ⟨v5, ev5, h⟩ := bd h
  have iv5 := gR_in hB (show 9 ≤ 11 from by decide) ev5
  obtain ⟨q6, eq6, h⟩ := bd h
  have rq6 := rc_in hB (show 3 ≤ 11 from by decide) eq6
  obtain ⟨v8, M7, eM7, h⟩ := b2d h
  have w := oX3_has fu q6 (16 : Int32) M4 hB rq6 eM7
  have hS := hS.tr w.1
  have hB := w.2
  by_cases hc : v8 = 0
  · have h := (if_pos hc).symm.trans h
    obtain ⟨v9, ev9, h⟩ := bd h
    have iv9 := gR_in hB (show 9 ≤ 11 from by decide) ev9
    obtain ⟨v10, ev10, h⟩ := bd h
    obtain ⟨v11, ev11, h⟩ := bd h
    have iv11 := gR_in hB (show 9 ≤ 11 from by decide) ev11
    obtain ⟨v12, ev12, h⟩ := bd h
    obtain ⟨v13, ev13, h⟩ := bd h
    have iv13 := gR_in hB (show 9 ≤ 11 from by decide) ev13
    obtain ⟨v14, ev14, h⟩ := bd h
    obtain ⟨v15, ev15, h⟩ := bd h
    have iv15 := gR_in hB (show 9 ≤ 11 from by decide) ev15
    obtain ⟨q16, eq16, h⟩ := bd h
    have rq16 := rc_in hB (show 3 ≤ 11 from by decide) eq16
    obtain ⟨v18, M17, eM17, h⟩ := b2d h
    have w := oX3_span fu q16  M7 hB rq16 eM17
    have hS := hS.tr w.1
    have hB := w.2
    obtain ⟨q19, eq19, h⟩ := bd h
    have rq19 := rc_in hB (show 9 ≤ 11 from by decide) eq19
    obtain ⟨M20, eM20, h⟩ := bd h
    have w := oX9_fillHeader fu q19 v10 v12 (0 : Int32) (v14 + v18) (20 : Int32) (0 : Int32) M17 hB rq19 eM20
    have hS := hS.tr w.1
    have hB := w.2
    have z := oX9_reset_L93 fu   a0 M20 hB ra0 h
    exact ⟨hS.tr z.1, z.2⟩
  · have h := (if_neg hc).symm.trans h
    obtain ⟨v21, ev21, h⟩ := bd h
    have iv21 := gR_in hB (show 9 ≤ 11 from by decide) ev21
    obtain ⟨v22, ev22, h⟩ := bd h
    obtain ⟨v23, ev23, h⟩ := bd h
    have iv23 := gR_in hB (show 9 ≤ 11 from by decide) ev23
    obtain ⟨v24, ev24, h⟩ := bd h
    obtain ⟨v25, ev25, h⟩ := bd h
    have iv25 := gR_in hB (show 9 ≤ 11 from by decide) ev25
    obtain ⟨v26, ev26, h⟩ := bd h
    obtain ⟨q27, eq27, h⟩ := bd h
    have rq27 := rc_in hB (show 9 ≤ 11 from by decide) eq27
    obtain ⟨M28, eM28, h⟩ := bd h
    have w := oX9_fillHeader fu q27 v22 v24 v26 (0 : Int32) (4 : Int32) (0 : Int32) M7 hB rq27 eM28
    have hS := hS.tr w.1
    have hB := w.2
    have z := oX9_reset_L93 fu   a0 M28 hB ra0 h
    exact ⟨hS.tr z.1, z.2⟩
theorem oX9_freeConnection_L34 (fu : Nat) {out : Option Nat × Mm} (k2 : Nat → Int32 → Mm → Option (Option Nat × Mm)) (hk2 : ∀ (b0 : Nat) (b1 : Int32)  (M : Mm), Bd RX TX M → RX b0 → k2 b0 b1 M = some out → Sm RX M out.2 ∧ Bd RX TX out.2 ∧ inR RX out.1) (a0 : Nat) (a1 : Int32) (a2 : Option Nat)  (M : Mm) (hB : Bd RX TX M) (ra0 : RX a0) (ia2 : inR RX a2) (h : fX9_freeConnection_L34 fu k2 a0 a1 a2 M = some out) : Sm RX M out.2 ∧ Bd RX TX out.2 ∧ inR RX out.1 := by
  unfold fX9_freeConnection_L34 at h
  have hS : Sm RX M M := Sm.rf
  obtain ⟨v1, ev1, h⟩ := bd h
  by_cases hc : v1 = 0
  · have h := (if_pos hc).symm.trans h
    obtain rfl := Option.some.inj h
    exact ⟨hS, hB, ia2⟩
  · have h := (if_neg hc).symm.trans h
    have z := hk2 a0 (a1 + (1 : Int32)) M hB ra0 h
    exact ⟨hS.tr z.1, z.2⟩
theorem oX9_freeConnection_L2 (fu : Nat) {out : Option Nat × Mm}   : ∀ (n : Nat) (a0 : Nat) (a1 : Int32)  (M : Mm), Bd RX TX M → RX a0 → fX9_freeConnection_L2 fu  n a0 a1 M = some out → Sm RX M out.2 ∧ Bd RX TX out.2 ∧ inR RX out.1 := by
  intro n
  induction n with
  | zero =>
    intro a0 a1 M hB ra0 h
    have h : (none : Option (Option Nat × Mm)) = some out := h
    cases h
  | succ n ih =>
    intro a0 a1 M hB ra0 h
    rw [fX9_freeConnection_L2] at h
    have hS : Sm RX M M := Sm.rf
    by_cases hc : (16 : Int32) ≤ a1
    · have h := (if_pos hc).symm.trans h
      obtain rfl := Option.some.inj h
      exact ⟨hS, hB, inR_none⟩
    · have h := (if_neg hc).symm.trans h
      obtain ⟨v1, ev1, h⟩ := bd h
      have iv1 := gR_in hB (show 9 ≤ 11 from by decide) ev1
      obtain ⟨v2, ev2, h⟩ := bd h
      have iv2 := gB_in hB iv1 ev2
      by_cases hc : v2 = none
      · have h := (if_pos hc).symm.trans h
        obtain ⟨v3, M4, eM4, h⟩ := b2d h
        have w := mkO_own hB (by decide) eM4
        have hS := hS.tr w.1
        have rv3 := w.2.2
        have hB := w.2.1
        obtain ⟨M5, eM5, h⟩ := bd h
        have w := oX1_init fu v3  M4 hB rv3 eM5
        have hS := hS.tr w.1
        have hB := w.2
        obtain ⟨v6, ev6, h⟩ := bd h
        have iv6 := gR_in hB (show 9 ≤ 11 from by decide) ev6
        obtain ⟨M7, eM7, h⟩ := bd h
        have w := pB_own hB iv6 (inR_some rv3) eM7
        have hS := hS.tr w.1
        have hB := w.2
        have z := oX9_freeConnection_L34 fu (fun b0 b1 M => fX9_freeConnection_L2 fu  n b0 b1 M) ih a0 a1 (some v3) M7 hB ra0 (inR_some rv3) h
        exact ⟨hS.tr z.1, z.2⟩
      · have h := (if_neg hc).symm.trans h
        have z := oX9_freeConnection_L34 fu (fun b0 b1 M => fX9_freeConnection_L2 fu  n b0 b1 M) ih a0 a1 v2 M hB ra0 iv2 h
        exact ⟨hS.tr z.1, z.2⟩
theorem oX9_freeConnection (fu : Nat)   (a0 : Nat)  (M : Mm) {out : Option Nat × Mm} (hB : Bd RX TX M) (ra0 : RX a0) (h : fX9_freeConnection fu  a0 M = some out) : Sm RX M out.2 ∧ Bd RX TX out.2 ∧ inR RX out.1 := by
  unfold fX9_freeConnection at h
  have hS : Sm RX M M := Sm.rf
  have z := oX9_freeConnection_L2 fu   fu a0 (0 : Int32) M hB ra0 h
  exact ⟨hS.tr z.1, z.2⟩
theorem oX9_fill_L121 (fu : Nat)   (a0 : Nat) (a1 : Option Nat) (a5 : Int32)  (M : Mm) {out : Int32 × Mm} (hB : Bd RX TX M) (ra0 : RX a0) (ia1 : inR RX a1) (h : fX9_fill_L121 fu  a0 a1 a5 M = some out) : Sm RX M out.2 ∧ Bd RX TX out.2 := by
  unfold fX9_fill_L121 at h
  have hS : Sm RX M M := Sm.rf
  obtain ⟨v1, ev1, h⟩ := bd h
  obtain ⟨q2, eq2, h⟩ := bd h
  have rq2 := rc_in hB (show 9 ≤ 11 from by decide) eq2
  obtain ⟨M3, eM3, h⟩ := bd h
  have w := oX9_sumUp fu q2 v1 a5 M hB rq2 eM3
  have hS := hS.tr w.1
  have hB := w.2
  obtain rfl := Option.some.inj h
  exact ⟨hS, hB⟩
theorem oX9_fill_L93 (fu : Nat)   (a0 : Nat) (a1 : Option Nat) (a3 : Int32) (a5 : Int32)  (M : Mm) {out : Int32 × Mm} (hB : Bd RX TX M) (ra0 : RX a0) (ia1 : inR RX a1) (h : fX9_fill_L93 fu  a0 a1 a3 a5 M = some out) : Sm RX M out.2 ∧ Bd RX TX out.2 := by
  unfold fX9_fill_L93 at h
  have hS : Sm RX M M := Sm.rf
  by_cases hc : (a3 &&& (4 : Int32)) = 0
  · have h := (if_pos hc).symm.trans h
    obtain ⟨v1, ev1, h⟩ := bd h
    have iv1 := gR_in hB (show 1 ≤ 11 from by decide) ev1
    obtain ⟨v2, ev2, h⟩ := bd h
    have iv2 := gR_in hB (show 1 ≤ 11 from by decide) ev2
    obtain ⟨q3, eq3, h⟩ := bd h
    have rq3 := rc_in hB (show 0 ≤ 11 from by decide) eq3
    obtain ⟨v5, M4, eM4, h⟩ := b2d h
    have w := oX0_window fu q3  M hB rq3 eM4
    have hS := hS.tr w.1
    have hB := w.2
    obtain ⟨M6, eM6, h⟩ := bd h
    have w := pF_own hB (show 0 ≤ 11 from by decide) eM6
    have hS := hS.tr w.1
    have hB := w.2
    obtain ⟨v7, ev7, h⟩ := bd h
    have iv7 := gR_in hB (show 1 ≤ 11 from by decide) ev7
    obtain ⟨M8, eM8, h⟩ := bd h
    have w := pZ_own hB (show 0 ≤ 11 from by decide) eM8
    have hS := hS.tr w.1
    have hB := w.2
    have z := oX9_fill_L121 fu   a0 a1 a5 M8 hB ra0 ia1 h
    exact ⟨hS.tr z.1, z.2⟩
  · have h := (if_neg hc).symm.trans h
    have z := oX9_fill_L121 fu   a0 a1 a5 M hB ra0 ia1 h
    exact ⟨hS.tr z.1, z.2⟩
theorem oX9_fill_L23 (fu : Nat)   (a0 : Nat) (a1 : Option Nat) (a2 : Int32) (a3 : Int32) (a4 : Int32)  (M : Mm) {out : Int32 × Mm} (hB : Bd RX TX M) (ra0 : RX a0) (ia1 : inR RX a1) (h : fX9_fill_L23 fu  a0 a1 a2 a3 a4 M = some out) : Sm RX M out.2 ∧ Bd RX TX out.2 := by
  unfold fX9_fill_L23 at h
  have hS : Sm RX M M := Sm.rf
  obtain ⟨v1, ev1, h⟩ := bd h
  obtain ⟨v2, ev2, h⟩ := bd h
  have iv2 := gR_in hB (show 1 ≤ 11 from by decide) ev2
  obtain ⟨v3, ev3, h⟩ := bd h
  obtain ⟨v4, ev4, h⟩ := bd h
  have iv4 := gR_in hB (show 1 ≤ 11 from by decide) ev4
  obtain ⟨q5, eq5, h⟩ := bd h
  have rq5 := rc_in hB (show 0 ≤ 11 from by decide) eq5
  obtain ⟨v7, M6, eM6, h⟩ := b2d h
  have w := oX0_window fu q5  M hB rq5 eM6
  have hS := hS.tr w.1
  have hB := w.2
  obtain ⟨q8, eq8, h⟩ := bd h
  have rq8 := rc_in hB (show 9 ≤ 11 from by decide) eq8
  obtain ⟨M9, eM9, h⟩ := bd h
  have w := oX9_fillHeader fu q8 (80 : Int32) v1 a2 v3 a3 v7 M6 hB rq8 eM9
  have hS := hS.tr w.1
  have hB := w.2
  by_cases hc : (a3 &&& (2 : Int32)) = 0
  · have h := (if_pos hc).symm.trans h
    have z := oX9_fill_L93 fu   a0 a1 a3 ((20 : Int32) + a4) M9 hB ra0 ia1 h
    exact ⟨hS.tr z.1, z.2⟩
  · have h := (if_neg hc).symm.trans h
    obtain ⟨v10, ev10, h⟩ := bd h
    have iv10 := gR_in hB (show 9 ≤ 11 from by decide) ev10
    obtain ⟨v11, ev11, h⟩ := bd h
    have iv11 := gR_in hB (show 4 ≤ 11 from by decide) ev11
    obtain ⟨M12, eM12, h⟩ := bd h
    have w := pA_ownB hB iv11 eM12
    have hS := hS.tr w.1
    have hB := w.2
    obtain ⟨v13, ev13, h⟩ := bd h
    have iv13 := gR_in hB (show 9 ≤ 11 from by decide) ev13
    obtain ⟨v14, ev14, h⟩ := bd h
    have iv14 := gR_in hB (show 4 ≤ 11 from by decide) ev14
    obtain ⟨M15, eM15, h⟩ := bd h
    have w := oX11_putFour fu  v14 (54 : Int32) (33818036 : Int32) M12 hB iv14 eM15
    have hS := hS.tr w.1
    have hB := w.2
    have z := oX9_fill_L93 fu   a0 a1 a3 (24 : Int32) M15 hB ra0 ia1 h
    exact ⟨hS.tr z.1, z.2⟩
theorem oX9_fill (fu : Nat)   (a0 : Nat) (a1 : Option Nat) (a2 : Int32) (a3 : Int32) (a4 : Int32)  (M : Mm) {out : Int32 × Mm} (hB : Bd RX TX M) (ra0 : RX a0) (ia1 : inR RX a1) (h : fX9_fill fu  a0 a1 a2 a3 a4 M = some out) : Sm RX M out.2 ∧ Bd RX TX out.2 := by
  unfold fX9_fill at h
  have hS : Sm RX M M := Sm.rf
  obtain ⟨q1, eq1, h⟩ := bd h
  have rq1 := rc_in hB (show 1 ≤ 11 from by decide) eq1
  obtain ⟨v3, M2, eM2, h⟩ := b2d h
  have w := oX1_allows fu q1 a3 a4 M hB rq1 eM2
  have hS := hS.tr w.1
  have hB := w.2
  by_cases hc : v3 = 0
  · have h := (if_pos hc).symm.trans h
    obtain ⟨v4, ev4, h⟩ := bd h
    have iv4 := gR_in hB (show 9 ≤ 11 from by decide) ev4
    obtain ⟨v5, ev5, h⟩ := bd h
    obtain ⟨M6, eM6, h⟩ := bd h
    have w := pF_own hB (show 10 ≤ 11 from by decide) eM6
    have hS := hS.tr w.1
    have hB := w.2
    have z := oX9_fill_L23 fu   a0 a1 a2 a3 a4 M6 hB ra0 ia1 h
    exact ⟨hS.tr z.1, z.2⟩
  · have h := (if_neg hc).symm.trans h
    have z := oX9_fill_L23 fu   a0 a1 a2 a3 a4 M2 hB ra0 ia1 h
    exact ⟨hS.tr z.1, z.2⟩
theorem oX9_sendPlain (fu : Nat)   (a0 : Nat) (a1 : Option Nat) (a2 : Int32) (a3 : Int32)  (M : Mm) {out : Mm} (hB : Bd RX TX M) (ra0 : RX a0) (ia1 : inR RX a1) (h : fX9_sendPlain fu  a0 a1 a2 a3 M = some out) : Sm RX M out ∧ Bd RX TX out := by
  unfold fX9_sendPlain at h
  have hS : Sm RX M M := Sm.rf
  obtain ⟨v1, ev1, h⟩ := bd h
  have iv1 := gR_in hB (show 9 ≤ 11 from by decide) ev1
  obtain ⟨v2, ev2, h⟩ := bd h
  obtain ⟨q3, eq3, h⟩ := bd h
  have rq3 := rc_in hB (show 9 ≤ 11 from by decide) eq3
  obtain ⟨v5, M4, eM4, h⟩ := b2d h
  have w := oX9_fill fu q3 a1 a2 a3 (0 : Int32) M hB rq3 ia1 eM4
  have hS := hS.tr w.1
  have hB := w.2
  obtain ⟨q6, eq6, h⟩ := bd h
  have rq6 := rc_in hB (show 4 ≤ 11 from by decide) eq6
  obtain ⟨M7, eM7, h⟩ := bd h
  have w := oX4_send fu q6 v2 (6 : Int32) v5 M4 hB rq6 eM7
  have hS := hS.tr w.1
  have hB := w.2
  obtain rfl := Option.some.inj h
  exact ⟨hS, hB⟩
theorem oX9_takeWithoutConnection_L36 (fu : Nat)   (a0 : Nat)  (M : Mm) {out : Mm} (hB : Bd RX TX M) (ra0 : RX a0) (h : fX9_takeWithoutConnection_L36 fu  a0 M = some out) : Sm RX M out ∧ Bd RX TX out := by
  unfold fX9_takeWithoutConnection_L36 at h
  have hS : Sm RX M M := Sm.rf
  obtain ⟨q1, eq1, h⟩ := bd h
  have rq1 := rc_in hB (show 9 ≤ 11 from by decide) eq1
  obtain ⟨M2, eM2, h⟩ := bd h
  have w := oX9_reset fu q1  M hB rq1 eM2
  have hS := hS.tr w.1
  have hB := w.2
  obtain rfl := Option.some.inj h
  exact ⟨hS, hB⟩
theorem oX9_takeWithoutConnection_L71 (fu : Nat)   (a0 : Nat) (s0 : Option Nat) (M : Mm) {out : Mm} (hB : Bd RX TX M) (ra0 : RX a0) (is0 : inR RX s0) (h : fX9_takeWithoutConnection_L71 fu  a0 s0 M = some out) : Sm RX M out ∧ Bd RX TX out := by
  unfold fX9_takeWithoutConnection_L71 at h
  have hS : Sm RX M M := Sm.rf
  by_cases hc : s0 = none
  · have h := (if_pos hc).symm.trans h
    obtain rfl := Option.some.inj h
    exact ⟨hS, hB⟩
  · have h := (if_neg hc).symm.trans h
    obtain ⟨v1, ev1, h⟩ := bd h
    have iv1 := gR_in hB (show 9 ≤ 11 from by decide) ev1
    obtain ⟨v2, ev2, h⟩ := bd h
    have iv2 := gR_in hB (show 10 ≤ 11 from by decide) ev2
    obtain ⟨v3, ev3, h⟩ := bd h
    obtain ⟨M4, eM4, h⟩ := bd h
    have w := pA_own hB iv2 (by decide) eM4
    have hS := hS.tr w.1
    have hB := w.2
    obtain ⟨v5, ev5, h⟩ := bd h
    have iv5 := gR_in hB (show 9 ≤ 11 from by decide) ev5
    obtain ⟨v6, ev6, h⟩ := bd h
    have iv6 := gR_in hB (show 9 ≤ 11 from by decide) ev6
    obtain ⟨v7, ev7, h⟩ := bd h
    have iv7 := gR_in hB (show 10 ≤ 11 from by decide) ev7
    obtain ⟨v8, ev8, h⟩ := bd h
    obtain ⟨v9, ev9, h⟩ := bd h
    have iv9 := gR_in hB (show 9 ≤ 11 from by decide) ev9
    obtain ⟨v10, ev10, h⟩ := bd h
    obtain ⟨q11, eq11, h⟩ := bd h
    have rq11 := rc_in hB (show 1 ≤ 11 from by decide) eq11
    obtain ⟨M12, eM12, h⟩ := bd h
    have w := oX1_begin fu q11 v5 (((64000 : Int32) * v8) + ((250 : Int32) * v10)) M4 hB rq11 iv5 eM12
    have hS := hS.tr w.1
    have hB := w.2
    obtain ⟨v13, ev13, h⟩ := bd h
    have iv13 := gR_in hB (show 1 ≤ 11 from by decide) ev13
    obtain ⟨v14, ev14, h⟩ := bd h
    obtain ⟨v15, ev15, h⟩ := bd h
    have iv15 := gR_in hB (show 9 ≤ 11 from by decide) ev15
    obtain ⟨v16, ev16, h⟩ := bd h
    obtain ⟨q17, eq17, h⟩ := bd h
    have rq17 := rc_in hB (show 5 ≤ 11 from by decide) eq17
    obtain ⟨M18, eM18, h⟩ := bd h
    have w := oX5_startTiming fu q17 v14 v16 M12 hB rq17 eM18
    have hS := hS.tr w.1
    have hB := w.2
    obtain ⟨v19, ev19, h⟩ := bd h
    have iv19 := gR_in hB (show 1 ≤ 11 from by decide) ev19
    obtain ⟨v20, ev20, h⟩ := bd h
    have iv20 := gR_in hB (show 9 ≤ 11 from by decide) ev20
    obtain ⟨v21, ev21, h⟩ := bd h
    obtain ⟨v22, ev22, h⟩ := bd h
    have iv22 := gR_in hB (show 1 ≤ 11 from by decide) ev22
    obtain ⟨v23, ev23, h⟩ := bd h
    obtain ⟨M24, eM24, h⟩ := bd h
    have w := pF_own hB (show 5 ≤ 11 from by decide) eM24
    have hS := hS.tr w.1
    have hB := w.2
    obtain ⟨v25, ev25, h⟩ := bd h
    obtain ⟨q26, eq26, h⟩ := bd h
    have rq26 := rc_in hB (show 9 ≤ 11 from by decide) eq26
    obtain ⟨M27, eM27, h⟩ := bd h
    have w := oX9_sendPlain fu q26 s0 v25 (18 : Int32) M24 hB rq26 is0 eM27
    have hS := hS.tr w.1
    have hB := w.2
    obtain rfl := Option.some.inj h
    exact ⟨hS, hB⟩
theorem oX9_takeWithoutConnection_L70 (fu : Nat)   (a0 : Nat)  (M : Mm) {out : Mm} (hB : Bd RX TX M) (ra0 : RX a0) (h : fX9_takeWithoutConnection_L70 fu  a0 M = some out) : Sm RX M out ∧ Bd RX TX out := by
  unfold fX9_takeWithoutConnection_L70 at h
  have hS : Sm RX M M := Sm.rf
  have z := oX9_takeWithoutConnection_L71 fu   a0 none M hB ra0 inR_none h
  exact ⟨hS.tr z.1, z.2⟩
theorem oX9_takeWithoutConnection (fu : Nat)   (a0 : Nat)  (M : Mm) {out : Mm} (hB : Bd RX TX M) (ra0 : RX a0) (h : fX9_takeWithoutConnection fu  a0 M = some out) : Sm RX M out ∧ Bd RX TX out := by
  unfold fX9_takeWithoutConnection at h
  have hS : Sm RX M M := Sm.rf
  obtain ⟨v1, ev1, h⟩ := bd h
  have iv1 := gR_in hB (show 9 ≤ 11 from by decide) ev1
  obtain ⟨q2, eq2, h⟩ := bd h
  have rq2 := rc_in hB (show 3 ≤ 11 from by decide) eq2
  obtain ⟨v4, M3, eM3, h⟩ := b2d h
  have w := oX3_has fu q2 (4 : Int32) M hB rq2 eM3
  have hS := hS.tr w.1
  have hB := w.2
  by_cases hc : v4 = 0
  · have h := (if_pos hc).symm.trans h
    obtain ⟨v5, ev5, h⟩ := bd h
    have iv5 := gR_in hB (show 9 ≤ 11 from by decide) ev5
    obtain ⟨v6, ev6, h⟩ := bd h
    by_cases hc : v6 = (80 : Int32)
    · have h := (if_pos hc).symm.trans h
      obtain ⟨v7, ev7, h⟩ := bd h
      have iv7 := gR_in hB (show 9 ≤ 11 from by decide) ev7
      obtain ⟨q8, eq8, h⟩ := bd h
      have rq8 := rc_in hB (show 3 ≤ 11 from by decide) eq8
      obtain ⟨v10, M9, eM9, h⟩ := b2d h
      have w := oX3_has fu q8 (16 : Int32) M3 hB rq8 eM9
      have hS := hS.tr w.1
      have hB := w.2
      by_cases hc : v10 = 0
      · have h := (if_pos hc).symm.trans h
        obtain ⟨v11, ev11, h⟩ := bd h
        have iv11 := gR_in hB (show 9 ≤ 11 from by decide) ev11
        obtain ⟨q12, eq12, h⟩ := bd h
        have rq12 := rc_in hB (show 3 ≤ 11 from by decide) eq12
        obtain ⟨v14, M13, eM13, h⟩ := b2d h
        have w := oX3_has fu q12 (2 : Int32) M9 hB rq12 eM13
        have hS := hS.tr w.1
        have hB := w.2
        by_cases hc : v14 = 0
        · have h := (if_pos hc).symm.trans h
          have z := oX9_takeWithoutConnection_L70 fu   a0 M13 hB ra0 h
          exact ⟨hS.tr z.1, z.2⟩
        · have h := (if_neg hc).symm.trans h
          obtain ⟨v15, ev15, h⟩ := bd h
          have iv15 := gR_in hB (show 9 ≤ 11 from by decide) ev15
          obtain ⟨q16, eq16, h⟩ := bd h
          have rq16 := rc_in hB (show 3 ≤ 11 from by decide) eq16
          obtain ⟨v18, M17, eM17, h⟩ := b2d h
          have w := oX3_has fu q16 (1 : Int32) M13 hB rq16 eM17
          have hS := hS.tr w.1
          have hB := w.2
          by_cases hc : v18 = 0
          · have h := (if_pos hc).symm.trans h
            obtain ⟨q19, eq19, h⟩ := bd h
            have rq19 := rc_in hB (show 9 ≤ 11 from by decide) eq19
            obtain ⟨v21, M20, eM20, h⟩ := b2d h
            have w := oX9_freeConnection fu q19  M17 hB rq19 eM20
            have hS := hS.tr w.1
            have iv21 := w.2.2
            have hB := w.2.1
            have z := oX9_takeWithoutConnection_L71 fu   a0 v21 M20 hB ra0 iv21 h
            exact ⟨hS.tr z.1, z.2⟩
          · have h := (if_neg hc).symm.trans h
            have z := oX9_takeWithoutConnection_L70 fu   a0 M17 hB ra0 h
            exact ⟨hS.tr z.1, z.2⟩
      · have h := (if_neg hc).symm.trans h
        have z := oX9_takeWithoutConnection_L36 fu   a0 M9 hB ra0 h
        exact ⟨hS.tr z.1, z.2⟩
    · have h := (if_neg hc).symm.trans h
      have z := oX9_takeWithoutConnection_L36 fu   a0 M3 hB ra0 h
      exact ⟨hS.tr z.1, z.2⟩
  · have h := (if_neg hc).symm.trans h
    obtain rfl := Option.some.inj h
    exact ⟨hS, hB⟩
theorem oX9_refuse (fu : Nat)   (a0 : Nat) (a1 : Option Nat)  (M : Mm) {out : Mm} (hB : Bd RX TX M) (ra0 : RX a0) (ia1 : inR RX a1) (h : fX9_refuse fu  a0 a1 M = some out) : Sm RX M out ∧ Bd RX TX out := by
  unfold fX9_refuse at h
  have hS : Sm RX M M := Sm.rf
  obtain ⟨v1, ev1, h⟩ := bd h
  have iv1 := gR_in hB (show 9 ≤ 11 from by decide) ev1
  obtain ⟨q2, eq2, h⟩ := bd h
  have rq2 := rc_in hB (show 3 ≤ 11 from by decide) eq2
  obtain ⟨v4, M3, eM3, h⟩ := b2d h
  have w := oX3_has fu q2 (4 : Int32) M hB rq2 eM3
  have hS := hS.tr w.1
  have hB := w.2
  by_cases hc : v4 = 0
  · have h := (if_pos hc).symm.trans h
    obtain ⟨v5, ev5, h⟩ := bd h
    obtain ⟨q6, eq6, h⟩ := bd h
    have rq6 := rc_in hB (show 9 ≤ 11 from by decide) eq6
    obtain ⟨M7, eM7, h⟩ := bd h
    have w := oX9_sendPlain fu q6 a1 v5 (16 : Int32) M3 hB rq6 ia1 eM7
    have hS := hS.tr w.1
    have hB := w.2
    obtain ⟨v8, ev8, h⟩ := bd h
    by_cases hc : v8 = (6 : Int32)
    · have h := (if_pos hc).symm.trans h
      obtain ⟨v9, ev9, h⟩ := bd h
      have iv9 := gR_in hB (show 9 ≤ 11 from by decide) ev9
      obtain ⟨q10, eq10, h⟩ := bd h
      have rq10 := rc_in hB (show 3 ≤ 11 from by decide) eq10
      obtain ⟨v12, M11, eM11, h⟩ := b2d h
      have w := oX3_has fu q10 (1 : Int32) M7 hB rq10 eM11
      have hS := hS.tr w.1
      have hB := w.2
      by_cases hc : v12 = 0
      · have h := (if_pos hc).symm.trans h
        obtain rfl := Option.some.inj h
        exact ⟨hS, hB⟩
      · have h := (if_neg hc).symm.trans h
        obtain ⟨v13, ev13, h⟩ := bd h
        have iv13 := gR_in hB (show 9 ≤ 11 from by decide) ev13
        obtain ⟨v14, ev14, h⟩ := bd h
        obtain ⟨q15, eq15, h⟩ := bd h
        have rq15 := rc_in hB (show 1 ≤ 11 from by decide) eq15
        obtain ⟨M16, eM16, h⟩ := bd h
        have w := oX1_linger fu q15 v14 M11 hB rq15 eM16
        have hS := hS.tr w.1
        have hB := w.2
        obtain rfl := Option.some.inj h
        exact ⟨hS, hB⟩
    · have h := (if_neg hc).symm.trans h
      obtain rfl := Option.some.inj h
      exact ⟨hS, hB⟩
  · have h := (if_neg hc).symm.trans h
    obtain rfl := Option.some.inj h
    exact ⟨hS, hB⟩
theorem oX9_takeNew_L161 (fu : Nat)   (a0 : Nat) (a1 : Option Nat) (s0 : Option Nat) (s1 : Int32) (M : Mm) {out : Mm} (hB : Bd RX TX M) (ra0 : RX a0) (ia1 : inR RX a1) (is0 : inR RX s0) (h : fX9_takeNew_L161 fu  a0 a1 s0 s1 M = some out) : Sm RX M out ∧ Bd RX TX out := by
  unfold fX9_takeNew_L161 at h
  have hS : Sm RX M M := Sm.rf
  obtain ⟨M1, eM1, h⟩ := bd h
  have w := pF_own hB (show 5 ≤ 11 from by decide) eM1
  have hS := hS.tr w.1
  have hB := w.2
  obtain ⟨v2, ev2, h⟩ := bd h
  have iv2 := gR_in hB (show 9 ≤ 11 from by decide) ev2
  obtain ⟨v3, ev3, h⟩ := bd h
  obtain ⟨M4, eM4, h⟩ := bd h
  have w := pF_own hB (show 1 ≤ 11 from by decide) eM4
  have hS := hS.tr w.1
  have hB := w.2
  obtain rfl := Option.some.inj h
  exact ⟨hS, hB⟩
theorem oX9_takeNew_L125 (fu : Nat)   (a0 : Nat) (a1 : Option Nat)  (M : Mm) {out : Mm} (hB : Bd RX TX M) (ra0 : RX a0) (ia1 : inR RX a1) (h : fX9_takeNew_L125 fu  a0 a1 M = some out) : Sm RX M out ∧ Bd RX TX out := by
  unfold fX9_takeNew_L125 at h
  have hS : Sm RX M M := Sm.rf
  obtain ⟨v1, ev1, h⟩ := bd h
  have iv1 := gR_in hB (show 1 ≤ 11 from by decide) ev1
  obtain ⟨v2, ev2, h⟩ := bd h
  obtain ⟨v3, ev3, h⟩ := bd h
  by_cases hc : 0 ≤ (v2 - v3)
  · have h := (if_pos hc).symm.trans h
    have z := oX9_takeNew_L161 fu   a0 a1 v1 (2147483647 : Int32) M hB ra0 ia1 iv1 h
    exact ⟨hS.tr z.1, z.2⟩
  · have h := (if_neg hc).symm.trans h
    obtain ⟨v4, ev4, h⟩ := bd h
    have iv4 := gR_in hB (show 9 ≤ 11 from by decide) ev4
    obtain ⟨v5, ev5, h⟩ := bd h
    obtain ⟨v6, ev6, h⟩ := bd h
    have iv6 := gR_in hB (show 1 ≤ 11 from by decide) ev6
    obtain ⟨v7, ev7, h⟩ := bd h
    have z := oX9_takeNew_L161 fu   a0 a1 v1 (v5 + v7) M hB ra0 ia1 iv1 h
    exact ⟨hS.tr z.1, z.2⟩
theorem oX9_takeNew_L78 (fu : Nat)   (a0 : Nat) (a1 : Option Nat)  (M : Mm) {out : Mm} (hB : Bd RX TX M) (ra0 : RX a0) (ia1 : inR RX a1) (h : fX9_takeNew_L78 fu  a0 a1 M = some out) : Sm RX M out ∧ Bd RX TX out := by
  unfold fX9_takeNew_L78 at h
  have hS : Sm RX M M := Sm.rf
  obtain ⟨v1, ev1, h⟩ := bd h
  have iv1 := gR_in hB (show 1 ≤ 11 from by decide) ev1
  obtain ⟨M2, eM2, h⟩ := bd h
  have w := pF_own hB (show 5 ≤ 11 from by decide) eM2
  have hS := hS.tr w.1
  have hB := w.2
  obtain ⟨v3, ev3, h⟩ := bd h
  have iv3 := gR_in hB (show 1 ≤ 11 from by decide) ev3
  obtain ⟨M4, eM4, h⟩ := bd h
  have w := pF_own hB (show 5 ≤ 11 from by decide) eM4
  have hS := hS.tr w.1
  have hB := w.2
  obtain ⟨v5, ev5, h⟩ := bd h
  have iv5 := gR_in hB (show 9 ≤ 11 from by decide) ev5
  obtain ⟨v6, ev6, h⟩ := bd h
  obtain ⟨M7, eM7, h⟩ := bd h
  have w := pF_own hB (show 1 ≤ 11 from by decide) eM7
  have hS := hS.tr w.1
  have hB := w.2
  obtain ⟨v8, ev8, h⟩ := bd h
  obtain ⟨v9, ev9, h⟩ := bd h
  by_cases hc : 0 ≤ (v8 - v9)
  · have h := (if_pos hc).symm.trans h
    have z := oX9_takeNew_L125 fu   a0 a1 M7 hB ra0 ia1 h
    exact ⟨hS.tr z.1, z.2⟩
  · have h := (if_neg hc).symm.trans h
    obtain ⟨v10, ev10, h⟩ := bd h
    obtain ⟨M11, eM11, h⟩ := bd h
    have w := pF_own hB (show 1 ≤ 11 from by decide) eM11
    have hS := hS.tr w.1
    have hB := w.2
    have z := oX9_takeNew_L125 fu   a0 a1 M11 hB ra0 ia1 h
    exact ⟨hS.tr z.1, z.2⟩
theorem oX9_takeNew (fu : Nat)   (a0 : Nat) (a1 : Option Nat)  (M : Mm) {out : Mm} (hB : Bd RX TX M) (ra0 : RX a0) (ia1 : inR RX a1) (h : fX9_takeNew fu  a0 a1 M = some out) : Sm RX M out ∧ Bd RX TX out := by
  unfold fX9_takeNew at h
  have hS : Sm RX M M := Sm.rf
  obtain ⟨v1, ev1, h⟩ := bd h
  have iv1 := gR_in hB (show 9 ≤ 11 from by decide) ev1
  obtain ⟨v2, ev2, h⟩ := bd h
  obtain ⟨v3, ev3, h⟩ := bd h
  obtain ⟨v4, ev4, h⟩ := bd h
  have iv4 := gR_in hB (show 9 ≤ 11 from by decide) ev4
  obtain ⟨v5, ev5, h⟩ := bd h
  have iv5 := gR_in hB (show 10 ≤ 11 from by decide) ev5
  obtain ⟨v6, ev6, h⟩ := bd h
  obtain ⟨M7, eM7, h⟩ := bd h
  have w := pA_own hB iv5 (by decide) eM7
  have hS := hS.tr w.1
  have hB := w.2
  obtain ⟨v8, ev8, h⟩ := bd h
  have iv8 := gR_in hB (show 9 ≤ 11 from by decide) ev8
  obtain ⟨v9, ev9, h⟩ := bd h
  have iv9 := gR_in hB (show 10 ≤ 11 from by decide) ev9
  obtain ⟨v10, ev10, h⟩ := bd h
  obtain ⟨M11, eM11, h⟩ := bd h
  have w := pA_own hB iv9 (by decide) eM11
  have hS := hS.tr w.1
  have hB := w.2
  obtain ⟨v12, ev12, h⟩ := bd h
  have iv12 := gR_in hB (show 1 ≤ 11 from by decide) ev12
  obtain ⟨v13, ev13, h⟩ := bd h
  have iv13 := gR_in hB (show 9 ≤ 11 from by decide) ev13
  obtain ⟨v14, ev14, h⟩ := bd h
  obtain ⟨v15, ev15, h⟩ := bd h
  have iv15 := gR_in hB (show 9 ≤ 11 from by decide) ev15
  obtain ⟨v16, ev16, h⟩ := bd h
  obtain ⟨q17, eq17, h⟩ := bd h
  have rq17 := rc_in hB (show 5 ≤ 11 from by decide) eq17
  obtain ⟨M18, eM18, h⟩ := bd h
  have w := oX5_endTiming fu q17 v14 v16 M11 hB rq17 eM18
  have hS := hS.tr w.1
  have hB := w.2
  obtain ⟨v19, ev19, h⟩ := bd h
  by_cases hc : v19 = (1 : Int32)
  · have h := (if_pos hc).symm.trans h
    have z := oX9_takeNew_L78 fu   a0 a1 M18 hB ra0 ia1 h
    exact ⟨hS.tr z.1, z.2⟩
  · have h := (if_neg hc).symm.trans h
    obtain ⟨v20, ev20, h⟩ := bd h
    have iv20 := gR_in hB (show 1 ≤ 11 from by decide) ev20
    obtain ⟨q21, eq21, h⟩ := bd h
    have rq21 := rc_in hB (show 5 ≤ 11 from by decide) eq21
    obtain ⟨M22, eM22, h⟩ := bd h
    have w := oX5_grow fu q21 (v2 - v3) M18 hB rq21 eM22
    have hS := hS.tr w.1
    have hB := w.2
    have z := oX9_takeNew_L78 fu   a0 a1 M22 hB ra0 ia1 h
    exact ⟨hS.tr z.1, z.2⟩
theorem oX9_isOpened (fu : Nat)   (a0 : Nat) (a1 : Option Nat)  (M : Mm) {out : Int32 × Mm} (hB : Bd RX TX M) (ra0 : RX a0) (ia1 : inR RX a1) (h : fX9_isOpened fu  a0 a1 M = some out) : Sm RX M out.2 ∧ Bd RX TX out.2 := by
  unfold fX9_isOpened at h
  have hS : Sm RX M M := Sm.rf
  obtain ⟨v1, ev1, h⟩ := bd h
  have iv1 := gR_in hB (show 9 ≤ 11 from by decide) ev1
  obtain ⟨v2, ev2, h⟩ := bd h
  obtain ⟨v3, ev3, h⟩ := bd h
  by_cases hc : v2 = (v3 + (1 : Int32))
  · have h := (if_pos hc).symm.trans h
    obtain ⟨q4, eq4, h⟩ := bd h
    have rq4 := rc_in hB (show 9 ≤ 11 from by decide) eq4
    obtain ⟨M5, eM5, h⟩ := bd h
    have w := oX9_takeNew fu q4 a1 M hB rq4 ia1 eM5
    have hS := hS.tr w.1
    have hB := w.2
    obtain ⟨v6, ev6, h⟩ := bd h
    have iv6 := gR_in hB (show 9 ≤ 11 from by decide) ev6
    obtain ⟨q7, eq7, h⟩ := bd h
    have rq7 := rc_in hB (show 1 ≤ 11 from by decide) eq7
    obtain ⟨M8, eM8, h⟩ := bd h
    have w := oX1_takeWindow fu q7 v6 M5 hB rq7 iv6 eM8
    have hS := hS.tr w.1
    have hB := w.2
    obtain ⟨M9, eM9, h⟩ := bd h
    have w := pF_own hB (show 1 ≤ 11 from by decide) eM9
    have hS := hS.tr w.1
    have hB := w.2
    obtain ⟨hz, rfl⟩ := rN_some h
    exact ⟨hS, hB⟩
  · have h := (if_neg hc).symm.trans h
    obtain ⟨q10, eq10, h⟩ := bd h
    have rq10 := rc_in hB (show 9 ≤ 11 from by decide) eq10
    obtain ⟨M11, eM11, h⟩ := bd h
    have w := oX9_reset fu q10  M hB rq10 eM11
    have hS := hS.tr w.1
    have hB := w.2
    obtain ⟨hz, rfl⟩ := rN_some h
    exact ⟨hS, hB⟩
theorem oX9_isDuplicate (fu : Nat)   (a0 : Nat) (a1 : Option Nat)  (M : Mm) {out : Int32 × Mm} (hB : Bd RX TX M) (ra0 : RX a0) (ia1 : inR RX a1) (h : fX9_isDuplicate fu  a0 a1 M = some out) : Sm RX M out.2 ∧ Bd RX TX out.2 := by
  unfold fX9_isDuplicate at h
  have hS : Sm RX M M := Sm.rf
  obtain ⟨v1, ev1, h⟩ := bd h
  have iv1 := gR_in hB (show 9 ≤ 11 from by decide) ev1
  obtain ⟨v2, ev2, h⟩ := bd h
  obtain ⟨v3, ev3, h⟩ := bd h
  by_cases hc : v2 = v3
  · have h := (if_pos hc).symm.trans h
    obtain ⟨v4, ev4, h⟩ := bd h
    have iv4 := gR_in hB (show 9 ≤ 11 from by decide) ev4
    obtain ⟨q5, eq5, h⟩ := bd h
    have rq5 := rc_in hB (show 3 ≤ 11 from by decide) eq5
    obtain ⟨v7, M6, eM6, h⟩ := b2d h
    have w := oX3_span fu q5  M hB rq5 eM6
    have hS := hS.tr w.1
    have hB := w.2
    by_cases hc : v7 = 0
    · have h := (if_pos hc).symm.trans h
      obtain ⟨v8, ev8, h⟩ := bd h
      have iv8 := gR_in hB (show 9 ≤ 11 from by decide) ev8
      obtain ⟨v9, ev9, h⟩ := bd h
      obtain ⟨v10, ev10, h⟩ := bd h
      by_cases hc : v9 = v10
      · have h := (if_pos hc).symm.trans h
        obtain ⟨v11, ev11, h⟩ := bd h
        obtain ⟨v12, ev12, h⟩ := bd h
        by_cases hc : 0 ≤ (v11 - v12)
        · have h := (if_pos hc).symm.trans h
          obtain ⟨hz, rfl⟩ := rN_some h
          exact ⟨hS, hB⟩
        · have h := (if_neg hc).symm.trans h
          obtain ⟨hz, rfl⟩ := rN_some h
          exact ⟨hS, hB⟩
      · have h := (if_neg hc).symm.trans h
        obtain ⟨hz, rfl⟩ := rN_some h
        exact ⟨hS, hB⟩
    · have h := (if_neg hc).symm.trans h
      obtain ⟨hz, rfl⟩ := rN_some h
      exact ⟨hS, hB⟩
  · have h := (if_neg hc).symm.trans h
    obtain ⟨hz, rfl⟩ := rN_some h
    exact ⟨hS, hB⟩
theorem oX9_copyAnswer_L42 (fu : Nat) {out : Mm}   : ∀ (n : Nat) (a0 : Nat) (a1 : Option Nat) (a2 : Int32) (a3 : Int32) (a4 : Int32) (a5 : Int32) (a6 : Int32)  (M : Mm), Bd RX TX M → RX a0 → inR RX a1 → fX9_copyAnswer_L42 fu  n a0 a1 a2 a3 a4 a5 a6 M = some out → Sm RX M out ∧ Bd RX TX out := by
  intro n
  induction n with
  | zero =>
    intro a0 a1 a2 a3 a4 a5 a6 M hB ra0 ia1 h
    have h : (none : Option (Mm)) = some out := h
    cases h
  | succ n ih =>
    intro a0 a1 a2 a3 a4 a5 a6 M hB ra0 ia1 h
    rw [fX9_copyAnswer_L42] at h
    have hS : Sm RX M M := Sm.rf
    by_cases hc : a5 ≤ a6
    · have h := (if_pos hc).symm.trans h
      obtain ⟨v1, ev1, h⟩ := bd h
      obtain ⟨v2, ev2, h⟩ := bd h
      by_cases hc : (a3 - a5) ≤ 0
      · have h := (if_pos hc).symm.trans h
        obtain rfl := Option.some.inj h
        exact ⟨hS, hB⟩
      · have h := (if_neg hc).symm.trans h
        by_cases hc : (((v1 + a2) + a5) - v2) < 0
        · have h := (if_pos hc).symm.trans h
          obtain rfl := Option.some.inj h
          exact ⟨hS, hB⟩
        · have h := (if_neg hc).symm.trans h
          obtain ⟨v3, ev3, h⟩ := bd h
          have iv3 := gR_in hB (show 9 ≤ 11 from by decide) ev3
          obtain ⟨v4, ev4, h⟩ := bd h
          have iv4 := gR_in hB (show 8 ≤ 11 from by decide) ev4
          obtain ⟨v5, ev5, h⟩ := bd h
          by_cases hc : v5 < ((((v1 + a2) + a5) - v2) + (a3 - a5))
          · have h := (if_pos hc).symm.trans h
            obtain rfl := Option.some.inj h
            exact ⟨hS, hB⟩
          · have h := (if_neg hc).symm.trans h
            obtain ⟨v6, ev6, h⟩ := bd h
            have iv6 := gR_in hB (show 9 ≤ 11 from by decide) ev6
            obtain ⟨v7, ev7, h⟩ := bd h
            have iv7 := gR_in hB (show 8 ≤ 11 from by decide) ev7
            obtain ⟨v8, ev8, h⟩ := bd h
            have iv8 := gR_in hB (show 9 ≤ 11 from by decide) ev8
            obtain ⟨v9, ev9, h⟩ := bd h
            have iv9 := gR_in hB (show 4 ≤ 11 from by decide) ev9
            obtain ⟨M10, eM10, h⟩ := bd h
            have w := cpB_own hB iv9 eM10
            have hS := hS.tr w.1
            have hB := w.2
            obtain rfl := Option.some.inj h
            exact ⟨hS, hB⟩
    · have h := (if_neg hc).symm.trans h
      obtain ⟨v11, ev11, h⟩ := bd h
      have iv11 := gR_in hB (show 9 ≤ 11 from by decide) ev11
      obtain ⟨v12, ev12, h⟩ := bd h
      have iv12 := gR_in hB (show 4 ≤ 11 from by decide) ev12
      obtain ⟨v13, ev13, h⟩ := bd h
      have iv13 := gR_in hB (show 1 ≤ 11 from by decide) ev13
      obtain ⟨v15, M14, eM14, h⟩ := b2d h
      have w := oX11_one fu  v13 (a2 + a6) M hB iv13 eM14
      have hS := hS.tr w.1
      have hB := w.2
      obtain ⟨M16, eM16, h⟩ := bd h
      have w := pA_ownB hB iv12 eM16
      have hS := hS.tr w.1
      have hB := w.2
      have z := ih a0 a1 a2 a3 a4 a5 (a6 + (1 : Int32)) M16 hB ra0 ia1 h
      exact ⟨hS.tr z.1, z.2⟩
theorem oX9_copyAnswer (fu : Nat)   (a0 : Nat) (a1 : Option Nat) (a2 : Int32) (a3 : Int32)  (M : Mm) {out : Mm} (hB : Bd RX TX M) (ra0 : RX a0) (ia1 : inR RX a1) (h : fX9_copyAnswer fu  a0 a1 a2 a3 M = some out) : Sm RX M out ∧ Bd RX TX out := by
  unfold fX9_copyAnswer at h
  have hS : Sm RX M M := Sm.rf
  by_cases hc : a2 < 0
  · have h := (if_pos hc).symm.trans h
    obtain rfl := Option.some.inj h
    exact ⟨hS, hB⟩
  · have h := (if_neg hc).symm.trans h
    by_cases hc : a3 < 0
    · have h := (if_pos hc).symm.trans h
      obtain rfl := Option.some.inj h
      exact ⟨hS, hB⟩
    · have h := (if_neg hc).symm.trans h
      by_cases hc : a3 ≤ ((1514 : Int32) - (54 : Int32))
      · have h := (if_pos hc).symm.trans h
        obtain ⟨v1, ev1, h⟩ := bd h
        have z := oX9_copyAnswer_L42 fu   fu a0 a1 a2 a3 (54 : Int32) (jmax (0 : Int32) (jmin a3 (v1 - a2))) (0 : Int32) M hB ra0 ia1 h
        exact ⟨hS.tr z.1, z.2⟩
      · have h := (if_neg hc).symm.trans h
        obtain rfl := Option.some.inj h
        exact ⟨hS, hB⟩
theorem oX9_sendPart_L147 (fu : Nat)   (a0 : Nat) (a1 : Option Nat) (a2 : Int32) (a4 : Int32) (a5 : Int32)  (M : Mm) {out : Mm} (hB : Bd RX TX M) (ra0 : RX a0) (ia1 : inR RX a1) (h : fX9_sendPart_L147 fu  a0 a1 a2 a4 a5 M = some out) : Sm RX M out ∧ Bd RX TX out := by
  unfold fX9_sendPart_L147 at h
  have hS : Sm RX M M := Sm.rf
  obtain ⟨v1, ev1, h⟩ := bd h
  obtain ⟨q2, eq2, h⟩ := bd h
  have rq2 := rc_in hB (show 9 ≤ 11 from by decide) eq2
  obtain ⟨M3, eM3, h⟩ := bd h
  have w := oX9_copyAnswer fu q2 a1 (a2 - v1) a4 M hB rq2 ia1 eM3
  have hS := hS.tr w.1
  have hB := w.2
  obtain ⟨v4, ev4, h⟩ := bd h
  have iv4 := gR_in hB (show 9 ≤ 11 from by decide) ev4
  obtain ⟨v5, ev5, h⟩ := bd h
  obtain ⟨q6, eq6, h⟩ := bd h
  have rq6 := rc_in hB (show 9 ≤ 11 from by decide) eq6
  obtain ⟨v8, M7, eM7, h⟩ := b2d h
  have w := oX9_fill fu q6 a1 a2 a5 a4 M3 hB rq6 ia1 eM7
  have hS := hS.tr w.1
  have hB := w.2
  obtain ⟨q9, eq9, h⟩ := bd h
  have rq9 := rc_in hB (show 4 ≤ 11 from by decide) eq9
  obtain ⟨M10, eM10, h⟩ := bd h
  have w := oX4_send fu q9 v5 (6 : Int32) v8 M7 hB rq9 eM10
  have hS := hS.tr w.1
  have hB := w.2
  obtain rfl := Option.some.inj h
  exact ⟨hS, hB⟩
theorem oX9_sendPart_L113 (fu : Nat)   (a0 : Nat) (a1 : Option Nat) (a2 : Int32) (a4 : Int32) (a5 : Int32)  (M : Mm) {out : Mm} (hB : Bd RX TX M) (ra0 : RX a0) (ia1 : inR RX a1) (h : fX9_sendPart_L113 fu  a0 a1 a2 a4 a5 M = some out) : Sm RX M out ∧ Bd RX TX out := by
  unfold fX9_sendPart_L113 at h
  have hS : Sm RX M M := Sm.rf
  obtain ⟨v1, ev1, h⟩ := bd h
  have iv1 := gR_in hB (show 1 ≤ 11 from by decide) ev1
  obtain ⟨v2, ev2, h⟩ := bd h
  by_cases hc : v2 = (2147483647 : Int32)
  · have h := (if_pos hc).symm.trans h
    obtain ⟨v3, ev3, h⟩ := bd h
    have iv3 := gR_in hB (show 1 ≤ 11 from by decide) ev3
    obtain ⟨v4, ev4, h⟩ := bd h
    have iv4 := gR_in hB (show 9 ≤ 11 from by decide) ev4
    obtain ⟨v5, ev5, h⟩ := bd h
    obtain ⟨v6, ev6, h⟩ := bd h
    have iv6 := gR_in hB (show 1 ≤ 11 from by decide) ev6
    obtain ⟨v7, ev7, h⟩ := bd h
    obtain ⟨M8, eM8, h⟩ := bd h
    have w := pF_own hB (show 5 ≤ 11 from by decide) eM8
    have hS := hS.tr w.1
    have hB := w.2
    have z := oX9_sendPart_L147 fu   a0 a1 a2 a4 a5 M8 hB ra0 ia1 h
    exact ⟨hS.tr z.1, z.2⟩
  · have h := (if_neg hc).symm.trans h
    have z := oX9_sendPart_L147 fu   a0 a1 a2 a4 a5 M hB ra0 ia1 h
    exact ⟨hS.tr z.1, z.2⟩
theorem oX9_sendPart_L65 (fu : Nat)   (a0 : Nat) (a1 : Option Nat) (a2 : Int32) (a4 : Int32) (a5 : Int32)  (M : Mm) {out : Mm} (hB : Bd RX TX M) (ra0 : RX a0) (ia1 : inR RX a1) (h : fX9_sendPart_L65 fu  a0 a1 a2 a4 a5 M = some out) : Sm RX M out ∧ Bd RX TX out := by
  unfold fX9_sendPart_L65 at h
  have hS : Sm RX M M := Sm.rf
  obtain ⟨v1, ev1, h⟩ := bd h
  by_cases hc : 0 ≤ (a2 - v1)
  · have h := (if_pos hc).symm.trans h
    obtain ⟨v2, ev2, h⟩ := bd h
    have iv2 := gR_in hB (show 1 ≤ 11 from by decide) ev2
    obtain ⟨v3, ev3, h⟩ := bd h
    have iv3 := gR_in hB (show 9 ≤ 11 from by decide) ev3
    obtain ⟨v4, ev4, h⟩ := bd h
    obtain ⟨q5, eq5, h⟩ := bd h
    have rq5 := rc_in hB (show 5 ≤ 11 from by decide) eq5
    obtain ⟨M6, eM6, h⟩ := bd h
    have w := oX5_startTiming fu q5 a2 v4 M hB rq5 eM6
    have hS := hS.tr w.1
    have hB := w.2
    have z := oX9_sendPart_L113 fu   a0 a1 a2 a4 a5 M6 hB ra0 ia1 h
    exact ⟨hS.tr z.1, z.2⟩
  · have h := (if_neg hc).symm.trans h
    obtain ⟨v7, ev7, h⟩ := bd h
    have iv7 := gR_in hB (show 9 ≤ 11 from by decide) ev7
    obtain ⟨v8, ev8, h⟩ := bd h
    have iv8 := gR_in hB (show 10 ≤ 11 from by decide) ev8
    obtain ⟨v9, ev9, h⟩ := bd h
    obtain ⟨M10, eM10, h⟩ := bd h
    have w := pA_own hB iv8 (by decide) eM10
    have hS := hS.tr w.1
    have hB := w.2
    obtain ⟨v11, ev11, h⟩ := bd h
    have iv11 := gR_in hB (show 1 ≤ 11 from by decide) ev11
    obtain ⟨M12, eM12, h⟩ := bd h
    have w := pZ_own hB (show 5 ≤ 11 from by decide) eM12
    have hS := hS.tr w.1
    have hB := w.2
    have z := oX9_sendPart_L113 fu   a0 a1 a2 a4 a5 M12 hB ra0 ia1 h
    exact ⟨hS.tr z.1, z.2⟩
theorem oX9_sendPart_L49 (fu : Nat)   (a0 : Nat) (a1 : Option Nat) (a2 : Int32) (a3 : Int32) (a4 : Int32) (a5 : Int32)  (M : Mm) {out : Mm} (hB : Bd RX TX M) (ra0 : RX a0) (ia1 : inR RX a1) (h : fX9_sendPart_L49 fu  a0 a1 a2 a3 a4 a5 M = some out) : Sm RX M out ∧ Bd RX TX out := by
  unfold fX9_sendPart_L49 at h
  have hS : Sm RX M M := Sm.rf
  by_cases hc : a3 ≤ a4
  · have h := (if_pos hc).symm.trans h
    have z := oX9_sendPart_L65 fu   a0 a1 a2 a4 a5 M hB ra0 ia1 h
    exact ⟨hS.tr z.1, z.2⟩
  · have h := (if_neg hc).symm.trans h
    obtain ⟨q1, eq1, h⟩ := bd h
    have rq1 := rc_in hB (show 1 ≤ 11 from by decide) eq1
    obtain ⟨M2, eM2, h⟩ := bd h
    have w := oX1_finGoes fu q1  M hB rq1 eM2
    have hS := hS.tr w.1
    have hB := w.2
    have z := oX9_sendPart_L65 fu   a0 a1 a2 a4 (a5 ||| (1 : Int32)) M2 hB ra0 ia1 h
    exact ⟨hS.tr z.1, z.2⟩
theorem oX9_sendPart (fu : Nat)   (a0 : Nat) (a1 : Option Nat) (a2 : Int32) (a3 : Int32)  (M : Mm) {out : Mm} (hB : Bd RX TX M) (ra0 : RX a0) (ia1 : inR RX a1) (h : fX9_sendPart fu  a0 a1 a2 a3 M = some out) : Sm RX M out ∧ Bd RX TX out := by
  unfold fX9_sendPart at h
  have hS : Sm RX M M := Sm.rf
  obtain ⟨q1, eq1, h⟩ := bd h
  have rq1 := rc_in hB (show 1 ≤ 11 from by decide) eq1
  obtain ⟨v3, M2, eM2, h⟩ := b2d h
  have w := oX1_dataEnd fu q1  M hB rq1 eM2
  have hS := hS.tr w.1
  have hB := w.2
  by_cases hc : a3 ≤ 0
  · have h := (if_pos hc).symm.trans h
    obtain rfl := Option.some.inj h
    exact ⟨hS, hB⟩
  · have h := (if_neg hc).symm.trans h
    by_cases hc : 0 ≤ (jmin a3 (v3 - a2))
    · have h := (if_pos hc).symm.trans h
      by_cases hc : (jmin a3 (v3 - a2)) ≤ 0
      · have h := (if_pos hc).symm.trans h
        have z := oX9_sendPart_L49 fu   a0 a1 a2 a3 (jmin a3 (v3 - a2)) (16 : Int32) M2 hB ra0 ia1 h
        exact ⟨hS.tr z.1, z.2⟩
      · have h := (if_neg hc).symm.trans h
        obtain ⟨q4, eq4, h⟩ := bd h
        have rq4 := rc_in hB (show 1 ≤ 11 from by decide) eq4
        obtain ⟨v6, M5, eM5, h⟩ := b2d h
        have w := oX1_dataEnd fu q4  M2 hB rq4 eM5
        have hS := hS.tr w.1
        have hB := w.2
        by_cases hc : (a2 + (jmin a3 (v3 - a2))) = v6
        · have h := (if_pos hc).symm.trans h
          have z := oX9_sendPart_L49 fu   a0 a1 a2 a3 (jmin a3 (v3 - a2)) ((16 : Int32) ||| (8 : Int32)) M5 hB ra0 ia1 h
          exact ⟨hS.tr z.1, z.2⟩
        · have h := (if_neg hc).symm.trans h
          have z := oX9_sendPart_L49 fu   a0 a1 a2 a3 (jmin a3 (v3 - a2)) (16 : Int32) M5 hB ra0 ia1 h
          exact ⟨hS.tr z.1, z.2⟩
    · have h := (if_neg hc).symm.trans h
      obtain rfl := Option.some.inj h
      exact ⟨hS, hB⟩
theorem oX9_isAcknowledged_L171 (fu : Nat)   (a1 : Option Nat)  (M : Mm) {out : Int32 × Mm} (hB : Bd RX TX M) (ia1 : inR RX a1) (h : fX9_isAcknowledged_L171 fu  a1 M = some out) : Sm RX M out.2 ∧ Bd RX TX out.2 := by
  unfold fX9_isAcknowledged_L171 at h
  have hS : Sm RX M M := Sm.rf
  obtain ⟨v1, ev1, h⟩ := bd h
  by_cases hc : v1 = 0
  · have h := (if_pos hc).symm.trans h
    obtain ⟨hz, rfl⟩ := rN_some h
    exact ⟨hS, hB⟩
  · have h := (if_neg hc).symm.trans h
    obtain ⟨hz, rfl⟩ := rN_some h
    exact ⟨hS, hB⟩
theorem oX9_isAcknowledged_L140 (fu : Nat)   (a0 : Nat) (a1 : Option Nat)  (M : Mm) {out : Int32 × Mm} (hB : Bd RX TX M) (ra0 : RX a0) (ia1 : inR RX a1) (h : fX9_isAcknowledged_L140 fu  a0 a1 M = some out) : Sm RX M out.2 ∧ Bd RX TX out.2 := by
  unfold fX9_isAcknowledged_L140 at h
  have hS : Sm RX M M := Sm.rf
  obtain ⟨v1, ev1, h⟩ := bd h
  by_cases hc : v1 = 0
  · have h := (if_pos hc).symm.trans h
    have z := oX9_isAcknowledged_L171 fu   a1 M hB ia1 h
    exact ⟨hS.tr z.1, z.2⟩
  · have h := (if_neg hc).symm.trans h
    obtain ⟨v2, ev2, h⟩ := bd h
    obtain ⟨q3, eq3, h⟩ := bd h
    have rq3 := rc_in hB (show 1 ≤ 11 from by decide) eq3
    obtain ⟨v5, M4, eM4, h⟩ := b2d h
    have w := oX1_dataEnd fu q3  M hB rq3 eM4
    have hS := hS.tr w.1
    have hB := w.2
    by_cases hc : v2 = (v5 + (1 : Int32))
    · have h := (if_pos hc).symm.trans h
      obtain ⟨v6, ev6, h⟩ := bd h
      have iv6 := gR_in hB (show 9 ≤ 11 from by decide) ev6
      obtain ⟨v7, ev7, h⟩ := bd h
      obtain ⟨q8, eq8, h⟩ := bd h
      have rq8 := rc_in hB (show 1 ≤ 11 from by decide) eq8
      obtain ⟨M9, eM9, h⟩ := bd h
      have w := oX1_finIsAcknowledged fu q8 v7 M4 hB rq8 eM9
      have hS := hS.tr w.1
      have hB := w.2
      have z := oX9_isAcknowledged_L171 fu   a1 M9 hB ia1 h
      exact ⟨hS.tr z.1, z.2⟩
    · have h := (if_neg hc).symm.trans h
      have z := oX9_isAcknowledged_L171 fu   a1 M4 hB ia1 h
      exact ⟨hS.tr z.1, z.2⟩
theorem oX9_isAcknowledged_L125 (fu : Nat)   (a0 : Nat) (a1 : Option Nat)  (M : Mm) {out : Int32 × Mm} (hB : Bd RX TX M) (ra0 : RX a0) (ia1 : inR RX a1) (h : fX9_isAcknowledged_L125 fu  a0 a1 M = some out) : Sm RX M out.2 ∧ Bd RX TX out.2 := by
  unfold fX9_isAcknowledged_L125 at h
  have hS : Sm RX M M := Sm.rf
  obtain ⟨v1, ev1, h⟩ := bd h
  by_cases hc : v1 = 0
  · have h := (if_pos hc).symm.trans h
    obtain ⟨v2, ev2, h⟩ := bd h
    have iv2 := gR_in hB (show 1 ≤ 11 from by decide) ev2
    obtain ⟨M3, eM3, h⟩ := bd h
    have w := pF_own hB (show 5 ≤ 11 from by decide) eM3
    have hS := hS.tr w.1
    have hB := w.2
    have z := oX9_isAcknowledged_L140 fu   a0 a1 M3 hB ra0 ia1 h
    exact ⟨hS.tr z.1, z.2⟩
  · have h := (if_neg hc).symm.trans h
    have z := oX9_isAcknowledged_L140 fu   a0 a1 M hB ra0 ia1 h
    exact ⟨hS.tr z.1, z.2⟩
theorem oX9_isAcknowledged_L91 (fu : Nat)   (a0 : Nat) (a1 : Option Nat)  (M : Mm) {out : Int32 × Mm} (hB : Bd RX TX M) (ra0 : RX a0) (ia1 : inR RX a1) (h : fX9_isAcknowledged_L91 fu  a0 a1 M = some out) : Sm RX M out.2 ∧ Bd RX TX out.2 := by
  unfold fX9_isAcknowledged_L91 at h
  have hS : Sm RX M M := Sm.rf
  obtain ⟨v1, ev1, h⟩ := bd h
  have iv1 := gR_in hB (show 9 ≤ 11 from by decide) ev1
  obtain ⟨v2, ev2, h⟩ := bd h
  obtain ⟨v3, ev3, h⟩ := bd h
  by_cases hc : (v2 - v3) < 0
  · have h := (if_pos hc).symm.trans h
    have z := oX9_isAcknowledged_L140 fu   a0 a1 M hB ra0 ia1 h
    exact ⟨hS.tr z.1, z.2⟩
  · have h := (if_neg hc).symm.trans h
    obtain ⟨v4, ev4, h⟩ := bd h
    have iv4 := gR_in hB (show 9 ≤ 11 from by decide) ev4
    obtain ⟨q5, eq5, h⟩ := bd h
    have rq5 := rc_in hB (show 1 ≤ 11 from by decide) eq5
    obtain ⟨v7, M6, eM6, h⟩ := b2d h
    have w := oX1_isWindowNewer fu q5 v4 M hB rq5 iv4 eM6
    have hS := hS.tr w.1
    have hB := w.2
    by_cases hc : v7 = 0
    · have h := (if_pos hc).symm.trans h
      have z := oX9_isAcknowledged_L125 fu   a0 a1 M6 hB ra0 ia1 h
      exact ⟨hS.tr z.1, z.2⟩
    · have h := (if_neg hc).symm.trans h
      obtain ⟨v8, ev8, h⟩ := bd h
      have iv8 := gR_in hB (show 9 ≤ 11 from by decide) ev8
      obtain ⟨q9, eq9, h⟩ := bd h
      have rq9 := rc_in hB (show 1 ≤ 11 from by decide) eq9
      obtain ⟨M10, eM10, h⟩ := bd h
      have w := oX1_takeWindow fu q9 v8 M6 hB rq9 iv8 eM10
      have hS := hS.tr w.1
      have hB := w.2
      have z := oX9_isAcknowledged_L125 fu   a0 a1 M10 hB ra0 ia1 h
      exact ⟨hS.tr z.1, z.2⟩
theorem oX9_isAcknowledged (fu : Nat)   (a0 : Nat) (a1 : Option Nat)  (M : Mm) {out : Int32 × Mm} (hB : Bd RX TX M) (ra0 : RX a0) (ia1 : inR RX a1) (h : fX9_isAcknowledged fu  a0 a1 M = some out) : Sm RX M out.2 ∧ Bd RX TX out.2 := by
  unfold fX9_isAcknowledged at h
  have hS : Sm RX M M := Sm.rf
  obtain ⟨v1, ev1, h⟩ := bd h
  have iv1 := gR_in hB (show 9 ≤ 11 from by decide) ev1
  obtain ⟨v2, ev2, h⟩ := bd h
  obtain ⟨v3, ev3, h⟩ := bd h
  by_cases hc : (v2 - v3) ≤ 0
  · have h := (if_pos hc).symm.trans h
    obtain ⟨v4, ev4, h⟩ := bd h
    have iv4 := gR_in hB (show 9 ≤ 11 from by decide) ev4
    obtain ⟨v5, ev5, h⟩ := bd h
    obtain ⟨v6, ev6, h⟩ := bd h
    by_cases hc : (v5 - v6) ≤ 0
    · have h := (if_pos hc).symm.trans h
      obtain ⟨q7, eq7, h⟩ := bd h
      have rq7 := rc_in hB (show 9 ≤ 11 from by decide) eq7
      obtain ⟨v9, M8, eM8, h⟩ := b2d h
      have w := oX9_isDuplicate fu q7 a1 M hB rq7 ia1 eM8
      have hS := hS.tr w.1
      have hB := w.2
      by_cases hc : v9 = 0
      · have h := (if_pos hc).symm.trans h
        have z := oX9_isAcknowledged_L91 fu   a0 a1 M8 hB ra0 ia1 h
        exact ⟨hS.tr z.1, z.2⟩
      · have h := (if_neg hc).symm.trans h
        obtain ⟨v10, ev10, h⟩ := bd h
        have iv10 := gR_in hB (show 1 ≤ 11 from by decide) ev10
        obtain ⟨v11, ev11, h⟩ := bd h
        obtain ⟨v12, ev12, h⟩ := bd h
        obtain ⟨q13, eq13, h⟩ := bd h
        have rq13 := rc_in hB (show 5 ≤ 11 from by decide) eq13
        obtain ⟨v15, M14, eM14, h⟩ := b2d h
        have w := oX5_countDuplicate fu q13 (v11 - v12) M8 hB rq13 eM14
        have hS := hS.tr w.1
        have hB := w.2
        by_cases hc : v15 = 0
        · have h := (if_pos hc).symm.trans h
          have z := oX9_isAcknowledged_L91 fu   a0 a1 M14 hB ra0 ia1 h
          exact ⟨hS.tr z.1, z.2⟩
        · have h := (if_neg hc).symm.trans h
          obtain ⟨v16, ev16, h⟩ := bd h
          obtain ⟨q17, eq17, h⟩ := bd h
          have rq17 := rc_in hB (show 1 ≤ 11 from by decide) eq17
          obtain ⟨v19, M18, eM18, h⟩ := b2d h
          have w := oX1_goesAgain fu q17  M14 hB rq17 eM18
          have hS := hS.tr w.1
          have hB := w.2
          obtain ⟨q20, eq20, h⟩ := bd h
          have rq20 := rc_in hB (show 9 ≤ 11 from by decide) eq20
          obtain ⟨M21, eM21, h⟩ := bd h
          have w := oX9_sendPart fu q20 a1 v16 v19 M18 hB rq20 ia1 eM21
          have hS := hS.tr w.1
          have hB := w.2
          have z := oX9_isAcknowledged_L91 fu   a0 a1 M21 hB ra0 ia1 h
          exact ⟨hS.tr z.1, z.2⟩
    · have h := (if_neg hc).symm.trans h
      obtain ⟨q22, eq22, h⟩ := bd h
      have rq22 := rc_in hB (show 9 ≤ 11 from by decide) eq22
      obtain ⟨M23, eM23, h⟩ := bd h
      have w := oX9_takeNew fu q22 a1 M hB rq22 ia1 eM23
      have hS := hS.tr w.1
      have hB := w.2
      have z := oX9_isAcknowledged_L91 fu   a0 a1 M23 hB ra0 ia1 h
      exact ⟨hS.tr z.1, z.2⟩
  · have h := (if_neg hc).symm.trans h
    obtain ⟨v24, ev24, h⟩ := bd h
    obtain ⟨q25, eq25, h⟩ := bd h
    have rq25 := rc_in hB (show 9 ≤ 11 from by decide) eq25
    obtain ⟨M26, eM26, h⟩ := bd h
    have w := oX9_sendPlain fu q25 a1 v24 (16 : Int32) M hB rq25 ia1 eM26
    have hS := hS.tr w.1
    have hB := w.2
    obtain ⟨hz, rfl⟩ := rN_some h
    exact ⟨hS, hB⟩
theorem oX9_takeData_L45 (fu : Nat)   (a0 : Nat) (a1 : Option Nat)  (M : Mm) {out : Mm} (hB : Bd RX TX M) (ra0 : RX a0) (ia1 : inR RX a1) (h : fX9_takeData_L45 fu  a0 a1 M = some out) : Sm RX M out ∧ Bd RX TX out := by
  unfold fX9_takeData_L45 at h
  have hS : Sm RX M M := Sm.rf
  obtain ⟨v1, ev1, h⟩ := bd h
  have iv1 := gR_in hB (show 1 ≤ 11 from by decide) ev1
  obtain ⟨v2, ev2, h⟩ := bd h
  have iv2 := gR_in hB (show 9 ≤ 11 from by decide) ev2
  obtain ⟨q3, eq3, h⟩ := bd h
  have rq3 := rc_in hB (show 0 ≤ 11 from by decide) eq3
  obtain ⟨v5, M4, eM4, h⟩ := b2d h
  have w := oX0_take fu q3 v2 M hB rq3 iv2 eM4
  have hS := hS.tr w.1
  have hB := w.2
  by_cases hc : v5 = 0
  · have h := (if_pos hc).symm.trans h
    obtain rfl := Option.some.inj h
    exact ⟨hS, hB⟩
  · have h := (if_neg hc).symm.trans h
    obtain ⟨v6, ev6, h⟩ := bd h
    have iv6 := gR_in hB (show 9 ≤ 11 from by decide) ev6
    obtain ⟨v7, ev7, h⟩ := bd h
    obtain ⟨q8, eq8, h⟩ := bd h
    have rq8 := rc_in hB (show 1 ≤ 11 from by decide) eq8
    obtain ⟨M9, eM9, h⟩ := bd h
    have w := oX1_otherSideEnds fu q8 v7 M4 hB rq8 eM9
    have hS := hS.tr w.1
    have hB := w.2
    obtain rfl := Option.some.inj h
    exact ⟨hS, hB⟩
theorem oX9_takeData_L24 (fu : Nat)   (a0 : Nat) (a1 : Option Nat)  (M : Mm) {out : Mm} (hB : Bd RX TX M) (ra0 : RX a0) (ia1 : inR RX a1) (h : fX9_takeData_L24 fu  a0 a1 M = some out) : Sm RX M out ∧ Bd RX TX out := by
  unfold fX9_takeData_L24 at h
  have hS : Sm RX M M := Sm.rf
  obtain ⟨v1, ev1, h⟩ := bd h
  have iv1 := gR_in hB (show 9 ≤ 11 from by decide) ev1
  obtain ⟨v2, ev2, h⟩ := bd h
  by_cases hc : v2 ≤ 0
  · have h := (if_pos hc).symm.trans h
    have z := oX9_takeData_L45 fu   a0 a1 M hB ra0 ia1 h
    exact ⟨hS.tr z.1, z.2⟩
  · have h := (if_neg hc).symm.trans h
    obtain ⟨v3, ev3, h⟩ := bd h
    have iv3 := gR_in hB (show 9 ≤ 11 from by decide) ev3
    obtain ⟨v4, ev4, h⟩ := bd h
    obtain ⟨M5, eM5, h⟩ := bd h
    have w := pF_own hB (show 1 ≤ 11 from by decide) eM5
    have hS := hS.tr w.1
    have hB := w.2
    have z := oX9_takeData_L45 fu   a0 a1 M5 hB ra0 ia1 h
    exact ⟨hS.tr z.1, z.2⟩
theorem oX9_takeData (fu : Nat)   (a0 : Nat) (a1 : Option Nat)  (M : Mm) {out : Mm} (hB : Bd RX TX M) (ra0 : RX a0) (ia1 : inR RX a1) (h : fX9_takeData fu  a0 a1 M = some out) : Sm RX M out ∧ Bd RX TX out := by
  unfold fX9_takeData at h
  have hS : Sm RX M M := Sm.rf
  obtain ⟨v1, ev1, h⟩ := bd h
  by_cases hc : v1 = (2 : Int32)
  · have h := (if_pos hc).symm.trans h
    have z := oX9_takeData_L24 fu   a0 a1 M hB ra0 ia1 h
    exact ⟨hS.tr z.1, z.2⟩
  · have h := (if_neg hc).symm.trans h
    obtain ⟨v2, ev2, h⟩ := bd h
    by_cases hc : v2 = (3 : Int32)
    · have h := (if_pos hc).symm.trans h
      have z := oX9_takeData_L24 fu   a0 a1 M hB ra0 ia1 h
      exact ⟨hS.tr z.1, z.2⟩
    · have h := (if_neg hc).symm.trans h
      obtain ⟨v3, ev3, h⟩ := bd h
      by_cases hc : v3 = (4 : Int32)
      · have h := (if_pos hc).symm.trans h
        have z := oX9_takeData_L24 fu   a0 a1 M hB ra0 ia1 h
        exact ⟨hS.tr z.1, z.2⟩
      · have h := (if_neg hc).symm.trans h
        obtain ⟨v4, ev4, h⟩ := bd h
        by_cases hc : v4 = (6 : Int32)
        · have h := (if_pos hc).symm.trans h
          obtain ⟨v5, ev5, h⟩ := bd h
          have iv5 := gR_in hB (show 9 ≤ 11 from by decide) ev5
          obtain ⟨q6, eq6, h⟩ := bd h
          have rq6 := rc_in hB (show 3 ≤ 11 from by decide) eq6
          obtain ⟨v8, M7, eM7, h⟩ := b2d h
          have w := oX3_has fu q6 (1 : Int32) M hB rq6 eM7
          have hS := hS.tr w.1
          have hB := w.2
          by_cases hc : v8 = 0
          · have h := (if_pos hc).symm.trans h
            obtain rfl := Option.some.inj h
            exact ⟨hS, hB⟩
          · have h := (if_neg hc).symm.trans h
            obtain ⟨v9, ev9, h⟩ := bd h
            have iv9 := gR_in hB (show 9 ≤ 11 from by decide) ev9
            obtain ⟨v10, ev10, h⟩ := bd h
            obtain ⟨q11, eq11, h⟩ := bd h
            have rq11 := rc_in hB (show 1 ≤ 11 from by decide) eq11
            obtain ⟨M12, eM12, h⟩ := bd h
            have w := oX1_linger fu q11 v10 M7 hB rq11 eM12
            have hS := hS.tr w.1
            have hB := w.2
            obtain rfl := Option.some.inj h
            exact ⟨hS, hB⟩
        · have h := (if_neg hc).symm.trans h
          obtain rfl := Option.some.inj h
          exact ⟨hS, hB⟩
theorem oX9_take_L117 (fu : Nat)   (a0 : Nat) (a1 : Option Nat)  (M : Mm) {out : Option Nat × Mm} (hB : Bd RX TX M) (ra0 : RX a0) (ia1 : inR RX a1) (h : fX9_take_L117 fu  a0 a1 M = some out) : Sm RX M out.2 ∧ Bd RX TX out.2 ∧ inR RX out.1 := by
  unfold fX9_take_L117 at h
  have hS : Sm RX M M := Sm.rf
  obtain ⟨q1, eq1, h⟩ := bd h
  have rq1 := rc_in hB (show 9 ≤ 11 from by decide) eq1
  obtain ⟨M2, eM2, h⟩ := bd h
  have w := oX9_takeData fu q1 a1 M hB rq1 ia1 eM2
  have hS := hS.tr w.1
  have hB := w.2
  obtain rfl := Option.some.inj h
  exact ⟨hS, hB, ia1⟩
theorem oX9_take (fu : Nat)   (a0 : Nat)  (M : Mm) {out : Option Nat × Mm} (hB : Bd RX TX M) (ra0 : RX a0) (h : fX9_take fu  a0 M = some out) : Sm RX M out.2 ∧ Bd RX TX out.2 ∧ inR RX out.1 := by
  unfold fX9_take at h
  have hS : Sm RX M M := Sm.rf
  obtain ⟨q1, eq1, h⟩ := bd h
  have rq1 := rc_in hB (show 9 ≤ 11 from by decide) eq1
  obtain ⟨v3, M2, eM2, h⟩ := b2d h
  have w := oX9_connectionOfSegment fu q1  M hB rq1 eM2
  have hS := hS.tr w.1
  have iv3 := w.2.2
  have hB := w.2.1
  by_cases hc : v3 = none
  · have h := (if_pos hc).symm.trans h
    obtain ⟨q36, eq36, h⟩ := bd h
    have rq36 := rc_in hB (show 9 ≤ 11 from by decide) eq36
    obtain ⟨M37, eM37, h⟩ := bd h
    have w := oX9_takeWithoutConnection fu q36  M2 hB rq36 eM37
    have hS := hS.tr w.1
    have hB := w.2
    obtain rfl := Option.some.inj h
    exact ⟨hS, hB, inR_none⟩
  · have h := (if_neg hc).symm.trans h
    obtain ⟨v4, ev4, h⟩ := bd h
    have iv4 := gR_in hB (show 1 ≤ 11 from by decide) ev4
    obtain ⟨v5, ev5, h⟩ := bd h
    have iv5 := gR_in hB (show 9 ≤ 11 from by decide) ev5
    obtain ⟨q6, eq6, h⟩ := bd h
    have rq6 := rc_in hB (show 0 ≤ 11 from by decide) eq6
    obtain ⟨v8, M7, eM7, h⟩ := b2d h
    have w := oX0_accepts fu q6 v5 M2 hB rq6 iv5 eM7
    have hS := hS.tr w.1
    have hB := w.2
    by_cases hc : v8 = 0
    · have h := (if_pos hc).symm.trans h
      obtain ⟨q34, eq34, h⟩ := bd h
      have rq34 := rc_in hB (show 9 ≤ 11 from by decide) eq34
      obtain ⟨M35, eM35, h⟩ := bd h
      have w := oX9_refuse fu q34 v3 M7 hB rq34 iv3 eM35
      have hS := hS.tr w.1
      have hB := w.2
      obtain rfl := Option.some.inj h
      exact ⟨hS, hB, inR_none⟩
    · have h := (if_neg hc).symm.trans h
      obtain ⟨v9, ev9, h⟩ := bd h
      have iv9 := gR_in hB (show 9 ≤ 11 from by decide) ev9
      obtain ⟨q10, eq10, h⟩ := bd h
      have rq10 := rc_in hB (show 3 ≤ 11 from by decide) eq10
      obtain ⟨v12, M11, eM11, h⟩ := b2d h
      have w := oX3_has fu q10 (4 : Int32) M7 hB rq10 eM11
      have hS := hS.tr w.1
      have hB := w.2
      by_cases hc : v12 = 0
      · have h := (if_pos hc).symm.trans h
        obtain ⟨v13, ev13, h⟩ := bd h
        have iv13 := gR_in hB (show 9 ≤ 11 from by decide) ev13
        obtain ⟨q14, eq14, h⟩ := bd h
        have rq14 := rc_in hB (show 3 ≤ 11 from by decide) eq14
        obtain ⟨v16, M15, eM15, h⟩ := b2d h
        have w := oX3_has fu q14 (2 : Int32) M11 hB rq14 eM15
        have hS := hS.tr w.1
        have hB := w.2
        by_cases hc : v16 = 0
        · have h := (if_pos hc).symm.trans h
          obtain ⟨v17, ev17, h⟩ := bd h
          have iv17 := gR_in hB (show 9 ≤ 11 from by decide) ev17
          obtain ⟨q18, eq18, h⟩ := bd h
          have rq18 := rc_in hB (show 3 ≤ 11 from by decide) eq18
          obtain ⟨v20, M19, eM19, h⟩ := b2d h
          have w := oX3_has fu q18 (16 : Int32) M15 hB rq18 eM19
          have hS := hS.tr w.1
          have hB := w.2
          by_cases hc : v20 = 0
          · have h := (if_pos hc).symm.trans h
            obtain rfl := Option.some.inj h
            exact ⟨hS, hB, inR_none⟩
          · have h := (if_neg hc).symm.trans h
            obtain ⟨v21, ev21, h⟩ := bd h
            by_cases hc : v21 = (1 : Int32)
            · have h := (if_pos hc).symm.trans h
              obtain ⟨q25, eq25, h⟩ := bd h
              have rq25 := rc_in hB (show 9 ≤ 11 from by decide) eq25
              obtain ⟨v27, M26, eM26, h⟩ := b2d h
              have w := oX9_isOpened fu q25 v3 M19 hB rq25 iv3 eM26
              have hS := hS.tr w.1
              have hB := w.2
              by_cases hc : v27 = 0
              · have h := (if_pos hc).symm.trans h
                obtain rfl := Option.some.inj h
                exact ⟨hS, hB, inR_none⟩
              · have h := (if_neg hc).symm.trans h
                have z := oX9_take_L117 fu   a0 v3 M26 hB ra0 iv3 h
                exact ⟨hS.tr z.1, z.2⟩
            · have h := (if_neg hc).symm.trans h
              obtain ⟨q22, eq22, h⟩ := bd h
              have rq22 := rc_in hB (show 9 ≤ 11 from by decide) eq22
              obtain ⟨v24, M23, eM23, h⟩ := b2d h
              have w := oX9_isAcknowledged fu q22 v3 M19 hB rq22 iv3 eM23
              have hS := hS.tr w.1
              have hB := w.2
              by_cases hc : v24 = 0
              · have h := (if_pos hc).symm.trans h
                obtain rfl := Option.some.inj h
                exact ⟨hS, hB, inR_none⟩
              · have h := (if_neg hc).symm.trans h
                have z := oX9_take_L117 fu   a0 v3 M23 hB ra0 iv3 h
                exact ⟨hS.tr z.1, z.2⟩
        · have h := (if_neg hc).symm.trans h
          obtain ⟨q28, eq28, h⟩ := bd h
          have rq28 := rc_in hB (show 9 ≤ 11 from by decide) eq28
          obtain ⟨M29, eM29, h⟩ := bd h
          have w := oX9_reset fu q28  M15 hB rq28 eM29
          have hS := hS.tr w.1
          have hB := w.2
          obtain ⟨q30, eq30, h⟩ := bd h
          have rq30 := rc_in hB (show 1 ≤ 11 from by decide) eq30
          obtain ⟨M31, eM31, h⟩ := bd h
          have w := oX1_leave fu q30  M29 hB rq30 eM31
          have hS := hS.tr w.1
          have hB := w.2
          obtain rfl := Option.some.inj h
          exact ⟨hS, hB, inR_none⟩
      · have h := (if_neg hc).symm.trans h
        obtain ⟨q32, eq32, h⟩ := bd h
        have rq32 := rc_in hB (show 1 ≤ 11 from by decide) eq32
        obtain ⟨M33, eM33, h⟩ := bd h
        have w := oX1_leave fu q32  M11 hB rq32 eM33
        have hS := hS.tr w.1
        have hB := w.2
        obtain rfl := Option.some.inj h
        exact ⟨hS, hB, inR_none⟩
theorem oX9_sendWhatMay_L53 (fu : Nat)   (a0 : Nat) (a1 : Option Nat)  (M : Mm) {out : Mm} (hB : Bd RX TX M) (ra0 : RX a0) (ia1 : inR RX a1) (h : fX9_sendWhatMay_L53 fu  a0 a1 M = some out) : Sm RX M out ∧ Bd RX TX out := by
  unfold fX9_sendWhatMay_L53 at h
  have hS : Sm RX M M := Sm.rf
  obtain ⟨q1, eq1, h⟩ := bd h
  have rq1 := rc_in hB (show 1 ≤ 11 from by decide) eq1
  obtain ⟨v3, M2, eM2, h⟩ := b2d h
  have w := oX1_left fu q1  M hB rq1 eM2
  have hS := hS.tr w.1
  have hB := w.2
  by_cases hc : v3 ≤ 0
  · have h := (if_pos hc).symm.trans h
    obtain rfl := Option.some.inj h
    exact ⟨hS, hB⟩
  · have h := (if_neg hc).symm.trans h
    obtain ⟨v4, ev4, h⟩ := bd h
    obtain ⟨v5, ev5, h⟩ := bd h
    by_cases hc : v4 = v5
    · have h := (if_pos hc).symm.trans h
      obtain ⟨v6, ev6, h⟩ := bd h
      by_cases hc : v6 = 0
      · have h := (if_pos hc).symm.trans h
        obtain ⟨v7, ev7, h⟩ := bd h
        have iv7 := gR_in hB (show 1 ≤ 11 from by decide) ev7
        obtain ⟨v8, ev8, h⟩ := bd h
        by_cases hc : v8 = (2147483647 : Int32)
        · have h := (if_pos hc).symm.trans h
          obtain ⟨v9, ev9, h⟩ := bd h
          have iv9 := gR_in hB (show 1 ≤ 11 from by decide) ev9
          obtain ⟨v10, ev10, h⟩ := bd h
          have iv10 := gR_in hB (show 9 ≤ 11 from by decide) ev10
          obtain ⟨v11, ev11, h⟩ := bd h
          obtain ⟨v12, ev12, h⟩ := bd h
          have iv12 := gR_in hB (show 1 ≤ 11 from by decide) ev12
          obtain ⟨v13, ev13, h⟩ := bd h
          obtain ⟨M14, eM14, h⟩ := bd h
          have w := pF_own hB (show 5 ≤ 11 from by decide) eM14
          have hS := hS.tr w.1
          have hB := w.2
          obtain rfl := Option.some.inj h
          exact ⟨hS, hB⟩
        · have h := (if_neg hc).symm.trans h
          obtain rfl := Option.some.inj h
          exact ⟨hS, hB⟩
      · have h := (if_neg hc).symm.trans h
        obtain rfl := Option.some.inj h
        exact ⟨hS, hB⟩
    · have h := (if_neg hc).symm.trans h
      obtain rfl := Option.some.inj h
      exact ⟨hS, hB⟩
theorem oX9_sendWhatMay_L10 (fu : Nat) {out : Mm}   : ∀ (n : Nat) (a0 : Nat) (a1 : Option Nat) (a2 : Int32)  (M : Mm), Bd RX TX M → RX a0 → inR RX a1 → fX9_sendWhatMay_L10 fu  n a0 a1 a2 M = some out → Sm RX M out ∧ Bd RX TX out := by
  intro n
  induction n with
  | zero =>
    intro a0 a1 a2 M hB ra0 ia1 h
    have h : (none : Option (Mm)) = some out := h
    cases h
  | succ n ih =>
    intro a0 a1 a2 M hB ra0 ia1 h
    rw [fX9_sendWhatMay_L10] at h
    have hS : Sm RX M M := Sm.rf
    by_cases hc : (1000000 : Int32) ≤ a2
    · have h := (if_pos hc).symm.trans h
      have z := oX9_sendWhatMay_L53 fu   a0 a1 M hB ra0 ia1 h
      exact ⟨hS.tr z.1, z.2⟩
    · have h := (if_neg hc).symm.trans h
      obtain ⟨q1, eq1, h⟩ := bd h
      have rq1 := rc_in hB (show 1 ≤ 11 from by decide) eq1
      obtain ⟨v3, M2, eM2, h⟩ := b2d h
      have w := oX1_mayGo fu q1  M hB rq1 eM2
      have hS := hS.tr w.1
      have hB := w.2
      by_cases hc : 0 < v3
      · have h := (if_pos hc).symm.trans h
        obtain ⟨v4, ev4, h⟩ := bd h
        obtain ⟨q5, eq5, h⟩ := bd h
        have rq5 := rc_in hB (show 9 ≤ 11 from by decide) eq5
        obtain ⟨M6, eM6, h⟩ := bd h
        have w := oX9_sendPart fu q5 a1 v4 v3 M2 hB rq5 ia1 eM6
        have hS := hS.tr w.1
        have hB := w.2
        obtain ⟨q7, eq7, h⟩ := bd h
        have rq7 := rc_in hB (show 1 ≤ 11 from by decide) eq7
        obtain ⟨M8, eM8, h⟩ := bd h
        have w := oX1_advance fu q7 v3 M6 hB rq7 eM8
        have hS := hS.tr w.1
        have hB := w.2
        have z := ih a0 a1 (a2 + (1 : Int32)) M8 hB ra0 ia1 h
        exact ⟨hS.tr z.1, z.2⟩
      · have h := (if_neg hc).symm.trans h
        have z := oX9_sendWhatMay_L53 fu   a0 a1 M2 hB ra0 ia1 h
        exact ⟨hS.tr z.1, z.2⟩
theorem oX9_sendWhatMay (fu : Nat)   (a0 : Nat) (a1 : Option Nat)  (M : Mm) {out : Mm} (hB : Bd RX TX M) (ra0 : RX a0) (ia1 : inR RX a1) (h : fX9_sendWhatMay fu  a0 a1 M = some out) : Sm RX M out ∧ Bd RX TX out := by
  unfold fX9_sendWhatMay at h
  have hS : Sm RX M M := Sm.rf
  obtain ⟨v1, ev1, h⟩ := bd h
  by_cases hc : v1 = 0
  · have h := (if_pos hc).symm.trans h
    obtain rfl := Option.some.inj h
    exact ⟨hS, hB⟩
  · have h := (if_neg hc).symm.trans h
    have z := oX9_sendWhatMay_L10 fu   fu a0 a1 (0 : Int32) M hB ra0 ia1 h
    exact ⟨hS.tr z.1, z.2⟩
theorem oX9_sendAllDue (fu : Nat)   (a0 : Nat) (a1 : Option Nat)  (M : Mm) {out : Mm} (hB : Bd RX TX M) (ra0 : RX a0) (ia1 : inR RX a1) (h : fX9_sendAllDue fu  a0 a1 M = some out) : Sm RX M out ∧ Bd RX TX out := by
  unfold fX9_sendAllDue at h
  have hS : Sm RX M M := Sm.rf
  obtain ⟨q1, eq1, h⟩ := bd h
  have rq1 := rc_in hB (show 9 ≤ 11 from by decide) eq1
  obtain ⟨M2, eM2, h⟩ := bd h
  have w := oX9_sendWhatMay fu q1 a1 M hB rq1 ia1 eM2
  have hS := hS.tr w.1
  have hB := w.2
  obtain ⟨v3, ev3, h⟩ := bd h
  have iv3 := gR_in hB (show 1 ≤ 11 from by decide) ev3
  obtain ⟨v4, ev4, h⟩ := bd h
  by_cases hc : v4 = 0
  · have h := (if_pos hc).symm.trans h
    obtain rfl := Option.some.inj h
    exact ⟨hS, hB⟩
  · have h := (if_neg hc).symm.trans h
    obtain ⟨v5, ev5, h⟩ := bd h
    obtain ⟨q6, eq6, h⟩ := bd h
    have rq6 := rc_in hB (show 9 ≤ 11 from by decide) eq6
    obtain ⟨M7, eM7, h⟩ := bd h
    have w := oX9_sendPlain fu q6 a1 v5 (16 : Int32) M2 hB rq6 ia1 eM7
    have hS := hS.tr w.1
    have hB := w.2
    obtain rfl := Option.some.inj h
    exact ⟨hS, hB⟩
theorem oX9_runOut_L185 (fu : Nat)   (a0 : Nat) (a1 : Option Nat) (s0 : Int32) (M : Mm) {out : Mm} (hB : Bd RX TX M) (ra0 : RX a0) (ia1 : inR RX a1) (h : fX9_runOut_L185 fu  a0 a1 s0 M = some out) : Sm RX M out ∧ Bd RX TX out := by
  unfold fX9_runOut_L185 at h
  have hS : Sm RX M M := Sm.rf
  obtain ⟨v1, ev1, h⟩ := bd h
  obtain ⟨q2, eq2, h⟩ := bd h
  have rq2 := rc_in hB (show 9 ≤ 11 from by decide) eq2
  obtain ⟨M3, eM3, h⟩ := bd h
  have w := oX9_sendPart fu q2 a1 v1 s0 M hB rq2 ia1 eM3
  have hS := hS.tr w.1
  have hB := w.2
  obtain ⟨q4, eq4, h⟩ := bd h
  have rq4 := rc_in hB (show 1 ≤ 11 from by decide) eq4
  obtain ⟨M5, eM5, h⟩ := bd h
  have w := oX1_advance fu q4 s0 M3 hB rq4 eM5
  have hS := hS.tr w.1
  have hB := w.2
  obtain rfl := Option.some.inj h
  exact ⟨hS, hB⟩
theorem oX9_runOut_L96 (fu : Nat)   (a0 : Nat) (a1 : Option Nat) (a2 : Int32)  (M : Mm) {out : Mm} (hB : Bd RX TX M) (ra0 : RX a0) (ia1 : inR RX a1) (h : fX9_runOut_L96 fu  a0 a1 a2 M = some out) : Sm RX M out ∧ Bd RX TX out := by
  unfold fX9_runOut_L96 at h
  have hS : Sm RX M M := Sm.rf
  obtain ⟨v1, ev1, h⟩ := bd h
  have iv1 := gR_in hB (show 1 ≤ 11 from by decide) ev1
  obtain ⟨q2, eq2, h⟩ := bd h
  have rq2 := rc_in hB (show 5 ≤ 11 from by decide) eq2
  obtain ⟨M3, eM3, h⟩ := bd h
  have w := oX5_backOff fu q2  M hB rq2 eM3
  have hS := hS.tr w.1
  have hB := w.2
  obtain ⟨v4, ev4, h⟩ := bd h
  have iv4 := gR_in hB (show 1 ≤ 11 from by decide) ev4
  obtain ⟨v5, ev5, h⟩ := bd h
  have iv5 := gR_in hB (show 9 ≤ 11 from by decide) ev5
  obtain ⟨v6, ev6, h⟩ := bd h
  obtain ⟨v7, ev7, h⟩ := bd h
  have iv7 := gR_in hB (show 1 ≤ 11 from by decide) ev7
  obtain ⟨v8, ev8, h⟩ := bd h
  obtain ⟨M9, eM9, h⟩ := bd h
  have w := pF_own hB (show 5 ≤ 11 from by decide) eM9
  have hS := hS.tr w.1
  have hB := w.2
  by_cases hc : a2 = 0
  · have h := (if_pos hc).symm.trans h
    obtain ⟨v10, ev10, h⟩ := bd h
    obtain ⟨M11, eM11, h⟩ := bd h
    have w := pF_own hB (show 1 ≤ 11 from by decide) eM11
    have hS := hS.tr w.1
    have hB := w.2
    obtain ⟨v12, ev12, h⟩ := bd h
    by_cases hc : v12 = 0
    · have h := (if_pos hc).symm.trans h
      have z := oX9_runOut_L185 fu   a0 a1 (1 : Int32) M11 hB ra0 ia1 h
      exact ⟨hS.tr z.1, z.2⟩
    · have h := (if_neg hc).symm.trans h
      obtain ⟨q13, eq13, h⟩ := bd h
      have rq13 := rc_in hB (show 1 ≤ 11 from by decide) eq13
      obtain ⟨v15, M14, eM14, h⟩ := b2d h
      have w := oX1_mayGo fu q13  M11 hB rq13 eM14
      have hS := hS.tr w.1
      have hB := w.2
      have z := oX9_runOut_L185 fu   a0 a1 v15 M14 hB ra0 ia1 h
      exact ⟨hS.tr z.1, z.2⟩
  · have h := (if_neg hc).symm.trans h
    obtain ⟨v16, ev16, h⟩ := bd h
    have iv16 := gR_in hB (show 9 ≤ 11 from by decide) ev16
    obtain ⟨v17, ev17, h⟩ := bd h
    have iv17 := gR_in hB (show 10 ≤ 11 from by decide) ev17
    obtain ⟨v18, ev18, h⟩ := bd h
    obtain ⟨M19, eM19, h⟩ := bd h
    have w := pA_own hB iv17 (by decide) eM19
    have hS := hS.tr w.1
    have hB := w.2
    obtain ⟨v20, ev20, h⟩ := bd h
    have iv20 := gR_in hB (show 1 ≤ 11 from by decide) ev20
    obtain ⟨M21, eM21, h⟩ := bd h
    have w := pZ_own hB (show 5 ≤ 11 from by decide) eM21
    have hS := hS.tr w.1
    have hB := w.2
    obtain ⟨v22, ev22, h⟩ := bd h
    obtain ⟨q23, eq23, h⟩ := bd h
    have rq23 := rc_in hB (show 9 ≤ 11 from by decide) eq23
    obtain ⟨M24, eM24, h⟩ := bd h
    have w := oX9_sendPlain fu q23 a1 v22 (18 : Int32) M21 hB rq23 ia1 eM24
    have hS := hS.tr w.1
    have hB := w.2
    obtain rfl := Option.some.inj h
    exact ⟨hS, hB⟩
theorem oX9_runOut_L44 (fu : Nat)   (a0 : Nat) (a1 : Option Nat) (a2 : Int32) (s0 : Int32) (s1 : Int32) (M : Mm) {out : Mm} (hB : Bd RX TX M) (ra0 : RX a0) (ia1 : inR RX a1) (h : fX9_runOut_L44 fu  a0 a1 a2 s0 s1 M = some out) : Sm RX M out ∧ Bd RX TX out := by
  unfold fX9_runOut_L44 at h
  have hS : Sm RX M M := Sm.rf
  by_cases hc : s0 ≤ s1
  · have h := (if_pos hc).symm.trans h
    by_cases hc : a2 = 0
    · have h := (if_pos hc).symm.trans h
      obtain ⟨v1, ev1, h⟩ := bd h
      have iv1 := gR_in hB (show 1 ≤ 11 from by decide) ev1
      obtain ⟨v2, ev2, h⟩ := bd h
      obtain ⟨v3, ev3, h⟩ := bd h
      obtain ⟨q4, eq4, h⟩ := bd h
      have rq4 := rc_in hB (show 5 ≤ 11 from by decide) eq4
      obtain ⟨M5, eM5, h⟩ := bd h
      have w := oX5_lowerThreshold fu q4 (v2 - v3) M hB rq4 eM5
      have hS := hS.tr w.1
      have hB := w.2
      have z := oX9_runOut_L96 fu   a0 a1 a2 M5 hB ra0 ia1 h
      exact ⟨hS.tr z.1, z.2⟩
    · have h := (if_neg hc).symm.trans h
      have z := oX9_runOut_L96 fu   a0 a1 a2 M hB ra0 ia1 h
      exact ⟨hS.tr z.1, z.2⟩
  · have h := (if_neg hc).symm.trans h
    obtain ⟨v6, ev6, h⟩ := bd h
    have iv6 := gR_in hB (show 9 ≤ 11 from by decide) ev6
    obtain ⟨v7, ev7, h⟩ := bd h
    have iv7 := gR_in hB (show 10 ≤ 11 from by decide) ev7
    obtain ⟨v8, ev8, h⟩ := bd h
    obtain ⟨M9, eM9, h⟩ := bd h
    have w := pA_own hB iv7 (by decide) eM9
    have hS := hS.tr w.1
    have hB := w.2
    obtain ⟨v10, ev10, h⟩ := bd h
    obtain ⟨q11, eq11, h⟩ := bd h
    have rq11 := rc_in hB (show 9 ≤ 11 from by decide) eq11
    obtain ⟨M12, eM12, h⟩ := bd h
    have w := oX9_sendPlain fu q11 a1 v10 (20 : Int32) M9 hB rq11 ia1 eM12
    have hS := hS.tr w.1
    have hB := w.2
    obtain ⟨q13, eq13, h⟩ := bd h
    have rq13 := rc_in hB (show 1 ≤ 11 from by decide) eq13
    obtain ⟨M14, eM14, h⟩ := bd h
    have w := oX1_leave fu q13  M12 hB rq13 eM14
    have hS := hS.tr w.1
    have hB := w.2
    obtain rfl := Option.some.inj h
    exact ⟨hS, hB⟩
theorem oX9_runOut_L13 (fu : Nat)   (a0 : Nat) (a1 : Option Nat) (s0 : Int32) (M : Mm) {out : Mm} (hB : Bd RX TX M) (ra0 : RX a0) (ia1 : inR RX a1) (h : fX9_runOut_L13 fu  a0 a1 s0 M = some out) : Sm RX M out ∧ Bd RX TX out := by
  unfold fX9_runOut_L13 at h
  have hS : Sm RX M M := Sm.rf
  obtain ⟨v1, ev1, h⟩ := bd h
  have iv1 := gR_in hB (show 1 ≤ 11 from by decide) ev1
  obtain ⟨v2, ev2, h⟩ := bd h
  obtain ⟨M3, eM3, h⟩ := bd h
  have w := pF_own hB (show 5 ≤ 11 from by decide) eM3
  have hS := hS.tr w.1
  have hB := w.2
  obtain ⟨v4, ev4, h⟩ := bd h
  have iv4 := gR_in hB (show 1 ≤ 11 from by decide) ev4
  obtain ⟨v5, ev5, h⟩ := bd h
  by_cases hc : s0 = 0
  · have h := (if_pos hc).symm.trans h
    have z := oX9_runOut_L44 fu   a0 a1 s0 v5 (8 : Int32) M3 hB ra0 ia1 h
    exact ⟨hS.tr z.1, z.2⟩
  · have h := (if_neg hc).symm.trans h
    have z := oX9_runOut_L44 fu   a0 a1 s0 v5 (5 : Int32) M3 hB ra0 ia1 h
    exact ⟨hS.tr z.1, z.2⟩
theorem oX9_runOut (fu : Nat)   (a0 : Nat) (a1 : Option Nat)  (M : Mm) {out : Mm} (hB : Bd RX TX M) (ra0 : RX a0) (ia1 : inR RX a1) (h : fX9_runOut fu  a0 a1 M = some out) : Sm RX M out ∧ Bd RX TX out := by
  unfold fX9_runOut at h
  have hS : Sm RX M M := Sm.rf
  obtain ⟨v1, ev1, h⟩ := bd h
  by_cases hc : v1 = (1 : Int32)
  · have h := (if_pos hc).symm.trans h
    have z := oX9_runOut_L13 fu   a0 a1 (1 : Int32) M hB ra0 ia1 h
    exact ⟨hS.tr z.1, z.2⟩
  · have h := (if_neg hc).symm.trans h
    have z := oX9_runOut_L13 fu   a0 a1 (0 : Int32) M hB ra0 ia1 h
    exact ⟨hS.tr z.1, z.2⟩
theorem oX10_init (fu : Nat)   (a0 : Nat)  (M : Mm) {out : Mm} (hB : Bd RX TX M) (ra0 : RX a0) (h : fX10_init fu  a0 M = some out) : Sm RX M out ∧ Bd RX TX out := by
  unfold fX10_init at h
  have hS : Sm RX M M := Sm.rf
  obtain ⟨v1, M2, eM2, h⟩ := b2d h
  have w := mkA_own hB (by decide) eM2
  have hS := hS.tr w.1
  have rv1 := w.2.2
  have hB := w.2.1
  obtain ⟨M3, eM3, h⟩ := bd h
  have w := pG_own hB (show 10 ≤ 11 from by decide) (inR_some rv1) eM3
  have hS := hS.tr w.1
  have hB := w.2
  obtain ⟨v4, M5, eM5, h⟩ := b2d h
  have w := mkA_own hB (by decide) eM5
  have hS := hS.tr w.1
  have rv4 := w.2.2
  have hB := w.2.1
  obtain ⟨M6, eM6, h⟩ := bd h
  have w := pG_own hB (show 10 ≤ 11 from by decide) (inR_some rv4) eM6
  have hS := hS.tr w.1
  have hB := w.2
  obtain rfl := Option.some.inj h
  exact ⟨hS, hB⟩
theorem oX10_restart (fu : Nat)   (a0 : Nat)  (M : Mm) {out : Mm} (hB : Bd RX TX M) (ra0 : RX a0) (h : fX10_restart fu  a0 M = some out) : Sm RX M out ∧ Bd RX TX out := by
  unfold fX10_restart at h
  have hS : Sm RX M M := Sm.rf
  obtain ⟨v1, ev1, h⟩ := bd h
  have iv1 := gR_in hB (show 10 ≤ 11 from by decide) ev1
  obtain ⟨M2, eM2, h⟩ := bd h
  have w := oJ7_fill_53178 fu  v1 (0 : Int32) M hB iv1 eM2
  have hS := hS.tr w.1
  have hB := w.2
  obtain ⟨M3, eM3, h⟩ := bd h
  have w := pF_own hB (show 10 ≤ 11 from by decide) eM3
  have hS := hS.tr w.1
  have hB := w.2
  obtain ⟨M4, eM4, h⟩ := bd h
  have w := pF_own hB (show 10 ≤ 11 from by decide) eM4
  have hS := hS.tr w.1
  have hB := w.2
  obtain ⟨M5, eM5, h⟩ := bd h
  have w := pF_own hB (show 10 ≤ 11 from by decide) eM5
  have hS := hS.tr w.1
  have hB := w.2
  obtain rfl := Option.some.inj h
  exact ⟨hS, hB⟩
theorem oX10_back (fu : Nat)   (a0 : Nat) (a1 : Int32)  (M : Mm) {out : Option Nat × Mm} (hB : Bd RX TX M) (ra0 : RX a0) (h : fX10_back fu  a0 a1 M = some out) : Sm RX M out.2 ∧ Bd RX TX out.2 ∧ inR RX out.1 := by
  unfold fX10_back at h
  have hS : Sm RX M M := Sm.rf
  by_cases hc : a1 < 0
  · have h := (if_pos hc).symm.trans h
    obtain rfl := Option.some.inj h
    exact ⟨hS, hB, inR_none⟩
  · have h := (if_neg hc).symm.trans h
    by_cases hc : (32 : Int32) ≤ a1
    · have h := (if_pos hc).symm.trans h
      obtain rfl := Option.some.inj h
      exact ⟨hS, hB, inR_none⟩
    · have h := (if_neg hc).symm.trans h
      obtain ⟨v1, ev1, h⟩ := bd h
      by_cases hc : a1 < v1
      · have h := (if_pos hc).symm.trans h
        obtain ⟨v2, ev2, h⟩ := bd h
        have iv2 := gR_in hB (show 10 ≤ 11 from by decide) ev2
        obtain ⟨v3, ev3, h⟩ := bd h
        obtain ⟨v4, ev4, h⟩ := bd h
        have iv4 := gB_in hB iv2 ev4
        obtain rfl := Option.some.inj h
        exact ⟨hS, hB, iv4⟩
      · have h := (if_neg hc).symm.trans h
        obtain rfl := Option.some.inj h
        exact ⟨hS, hB, inR_none⟩
theorem oX11_feed_L55 (fu : Nat)   (a0 : Nat) (a1 : Int32) (a2 : Int32) (a3 : Int32) (a4 : Int32) (a5 : Int32)  (M : Mm) {out : Int32 × Mm} (hB : Bd RX TX M) (ra0 : RX a0) (h : fX11_feed_L55 fu  a0 a1 a2 a3 a4 a5 M = some out) : Sm RX M out.2 ∧ Bd RX TX out.2 := by
  unfold fX11_feed_L55 at h
  have hS : Sm RX M M := Sm.rf
  obtain ⟨v1, ev1, h⟩ := bd h
  have iv1 := gR_in hB (show 11 ≤ 11 from by decide) ev1
  obtain ⟨v2, ev2, h⟩ := bd h
  obtain ⟨M3, eM3, h⟩ := bd h
  have w := oX11_putFour fu  v1 v2 a1 M hB iv1 eM3
  have hS := hS.tr w.1
  have hB := w.2
  obtain ⟨v4, ev4, h⟩ := bd h
  have iv4 := gR_in hB (show 11 ≤ 11 from by decide) ev4
  obtain ⟨v5, ev5, h⟩ := bd h
  obtain ⟨M6, eM6, h⟩ := bd h
  have w := oX11_putFour fu  v4 (v5 + (4 : Int32)) a2 M3 hB iv4 eM6
  have hS := hS.tr w.1
  have hB := w.2
  obtain ⟨v7, ev7, h⟩ := bd h
  have iv7 := gR_in hB (show 11 ≤ 11 from by decide) ev7
  obtain ⟨v8, ev8, h⟩ := bd h
  obtain ⟨M9, eM9, h⟩ := bd h
  have w := oX11_putFour fu  v7 (v8 + (8 : Int32)) a3 M6 hB iv7 eM9
  have hS := hS.tr w.1
  have hB := w.2
  obtain ⟨v10, ev10, h⟩ := bd h
  have iv10 := gR_in hB (show 11 ≤ 11 from by decide) ev10
  obtain ⟨v11, ev11, h⟩ := bd h
  obtain ⟨M12, eM12, h⟩ := bd h
  have w := oX11_putFour fu  v10 (v11 + (12 : Int32)) a4 M9 hB iv10 eM12
  have hS := hS.tr w.1
  have hB := w.2
  obtain ⟨v13, ev13, h⟩ := bd h
  have iv13 := gR_in hB (show 11 ≤ 11 from by decide) ev13
  obtain ⟨v14, ev14, h⟩ := bd h
  obtain ⟨M15, eM15, h⟩ := bd h
  have w := oX11_putFour fu  v13 (v14 + (16 : Int32)) a5 M12 hB iv13 eM15
  have hS := hS.tr w.1
  have hB := w.2
  obtain ⟨v16, ev16, h⟩ := bd h
  obtain ⟨M17, eM17, h⟩ := bd h
  have w := pF_own hB (show 11 ≤ 11 from by decide) eM17
  have hS := hS.tr w.1
  have hB := w.2
  obtain ⟨v18, ev18, h⟩ := bd h
  obtain rfl := Option.some.inj h
  exact ⟨hS, hB⟩
theorem oX11_feed (fu : Nat)   (a0 : Nat) (a1 : Int32) (a2 : Int32) (a3 : Int32) (a4 : Int32) (a5 : Int32)  (M : Mm) {out : Int32 × Mm} (hB : Bd RX TX M) (ra0 : RX a0) (h : fX11_feed fu  a0 a1 a2 a3 a4 a5 M = some out) : Sm RX M out.2 ∧ Bd RX TX out.2 := by
  unfold fX11_feed at h
  have hS : Sm RX M M := Sm.rf
  obtain ⟨v1, ev1, h⟩ := bd h
  by_cases hc : (v1 + (20 : Int32)) ≤ (65540 : Int32)
  · have h := (if_pos hc).symm.trans h
    obtain ⟨v2, ev2, h⟩ := bd h
    obtain ⟨v3, ev3, h⟩ := bd h
    have iv3 := gR_in hB (show 11 ≤ 11 from by decide) ev3
    obtain ⟨v4, ev4, h⟩ := bd h
    by_cases hc : (v2 + (20 : Int32)) ≤ v4
    · have h := (if_pos hc).symm.trans h
      have z := oX11_feed_L55 fu   a0 a1 a2 a3 a4 a5 M hB ra0 h
      exact ⟨hS.tr z.1, z.2⟩
    · have h := (if_neg hc).symm.trans h
      obtain ⟨v5, ev5, h⟩ := bd h
      have iv5 := gR_in hB (show 11 ≤ 11 from by decide) ev5
      obtain ⟨v6, ev6, h⟩ := bd h
      have iv6 := gR_in hB (show 11 ≤ 11 from by decide) ev6
      obtain ⟨v7, ev7, h⟩ := bd h
      obtain ⟨v9, M8, eM8, h⟩ := b2d h
      have w := oJ7_copyOf_9075b fu  v5 (jmin (((2 : Int32) * v7) + (20 : Int32)) (65540 : Int32)) M hB iv5 eM8
      have hS := hS.tr w.1
      have iv9 := w.2.2
      have hB := w.2.1
      obtain ⟨M10, eM10, h⟩ := bd h
      have w := pG_own hB (show 11 ≤ 11 from by decide) iv9 eM10
      have hS := hS.tr w.1
      have hB := w.2
      have z := oX11_feed_L55 fu   a0 a1 a2 a3 a4 a5 M10 hB ra0 h
      exact ⟨hS.tr z.1, z.2⟩
  · have h := (if_neg hc).symm.trans h
    obtain rfl := Option.some.inj h
    exact ⟨hS, hB⟩
theorem oX11_end (fu : Nat)   (a0 : Nat) (a1 : Int32)  (M : Mm) {out : Int32 × Mm} (hB : Bd RX TX M) (ra0 : RX a0) (h : fX11_end fu  a0 a1 M = some out) : Sm RX M out.2 ∧ Bd RX TX out.2 := by
  unfold fX11_end at h
  have hS : Sm RX M M := Sm.rf
  by_cases hc : a1 < 0
  · have h := (if_pos hc).symm.trans h
    obtain rfl := Option.some.inj h
    exact ⟨hS, hB⟩
  · have h := (if_neg hc).symm.trans h
    obtain ⟨v1, ev1, h⟩ := bd h
    by_cases hc : a1 ≤ v1
    · have h := (if_pos hc).symm.trans h
      obtain ⟨M2, eM2, h⟩ := bd h
      have w := pF_own hB (show 11 ≤ 11 from by decide) eM2
      have hS := hS.tr w.1
      have hB := w.2
      obtain rfl := Option.some.inj h
      exact ⟨hS, hB⟩
    · have h := (if_neg hc).symm.trans h
      obtain rfl := Option.some.inj h
      exact ⟨hS, hB⟩
theorem oX11_install (fu : Nat)   (a0 : Nat)  (M : Mm) {out : Int32 × Mm} (hB : Bd RX TX M) (ra0 : RX a0) (h : fX11_install fu  a0 M = some out) : Sm RX M out.2 ∧ Bd RX TX out.2 := by
  unfold fX11_install at h
  have hS : Sm RX M M := Sm.rf
  obtain ⟨v1, ev1, h⟩ := bd h
  by_cases hc : v1 ≤ (65535 : Int32)
  · have h := (if_pos hc).symm.trans h
    obtain ⟨v2, ev2, h⟩ := bd h
    obtain ⟨v3, ev3, h⟩ := bd h
    have iv3 := gR_in hB (show 11 ≤ 11 from by decide) ev3
    obtain ⟨v4, ev4, h⟩ := bd h
    have iv4 := gR_in hB (show 11 ≤ 11 from by decide) ev4
    obtain ⟨q5, eq5, h⟩ := bd h
    have rq5 := rc_in hB (show 8 ≤ 11 from by decide) eq5
    obtain ⟨M6, eM6, h⟩ := bd h
    have w := oX8_keep fu q5 v4 v2 M hB rq5 iv4 eM6
    have hS := hS.tr w.1
    have hB := w.2
    obtain ⟨M7, eM7, h⟩ := bd h
    have w := pF_own hB (show 11 ≤ 11 from by decide) eM7
    have hS := hS.tr w.1
    have hB := w.2
    obtain ⟨M8, eM8, h⟩ := bd h
    have w := pZ_own hB (show 11 ≤ 11 from by decide) eM8
    have hS := hS.tr w.1
    have hB := w.2
    obtain rfl := Option.some.inj h
    exact ⟨hS, hB⟩
  · have h := (if_neg hc).symm.trans h
    obtain rfl := Option.some.inj h
    exact ⟨hS, hB⟩
theorem oX11_boot (fu : Nat)   (a0 : Nat) (a1 : Int32) (a2 : Int32) (a3 : Int32) (a4 : Int32) (a5 : Int32)  (M : Mm) {out : Int32 × Mm} (hB : Bd RX TX M) (ra0 : RX a0) (h : fX11_boot fu  a0 a1 a2 a3 a4 a5 M = some out) : Sm RX M out.2 ∧ Bd RX TX out.2 := by
  unfold fX11_boot at h
  have hS : Sm RX M M := Sm.rf
  by_cases hc : a2 < (8 : Int32)
  · have h := (if_pos hc).symm.trans h
    obtain rfl := Option.some.inj h
    exact ⟨hS, hB⟩
  · have h := (if_neg hc).symm.trans h
    by_cases hc : (30 : Int32) < a2
    · have h := (if_pos hc).symm.trans h
      obtain rfl := Option.some.inj h
      exact ⟨hS, hB⟩
    · have h := (if_neg hc).symm.trans h
      obtain ⟨v2, M1, eM1, h⟩ := b2d h
      have w := oX11_isHostNumber fu  a1 M hB  eM1
      have hS := hS.tr w.1
      have hB := w.2
      by_cases hc : v2 = 0
      · have h := (if_pos hc).symm.trans h
        obtain rfl := Option.some.inj h
        exact ⟨hS, hB⟩
      · have h := (if_neg hc).symm.trans h
        obtain ⟨v3, ev3, h⟩ := bd h
        by_cases hc : ((a1 ^^^ a3) &&& v3) = 0
        · have h := (if_pos hc).symm.trans h
          by_cases hc : a3 = a1
          · have h := (if_pos hc).symm.trans h
            obtain rfl := Option.some.inj h
            exact ⟨hS, hB⟩
          · have h := (if_neg hc).symm.trans h
            by_cases hc : (a4 &&& (256 : Int32)) = 0
            · have h := (if_pos hc).symm.trans h
              obtain ⟨v4, ev4, h⟩ := bd h
              have iv4 := gR_in hB (show 11 ≤ 11 from by decide) ev4
              obtain ⟨q5, eq5, h⟩ := bd h
              have rq5 := rc_in hB (show 8 ≤ 11 from by decide) eq5
              obtain ⟨v7, M6, eM6, h⟩ := b2d h
              have w := oX8_isRight fu q5  M1 hB rq5 eM6
              have hS := hS.tr w.1
              have hB := w.2
              by_cases hc : v7 = 0
              · have h := (if_pos hc).symm.trans h
                obtain rfl := Option.some.inj h
                exact ⟨hS, hB⟩
              · have h := (if_neg hc).symm.trans h
                obtain ⟨v8, ev8, h⟩ := bd h
                have iv8 := gR_in hB (show 11 ≤ 11 from by decide) ev8
                obtain ⟨q9, eq9, h⟩ := bd h
                have rq9 := rc_in hB (show 8 ≤ 11 from by decide) eq9
                obtain ⟨M10, eM10, h⟩ := bd h
                have w := oX8_keepEntries fu q9  M6 hB rq9 eM10
                have hS := hS.tr w.1
                have hB := w.2
                obtain ⟨v11, ev11, h⟩ := bd h
                have iv11 := gR_in hB (show 11 ≤ 11 from by decide) ev11
                obtain ⟨q12, eq12, h⟩ := bd h
                have rq12 := rc_in hB (show 10 ≤ 11 from by decide) eq12
                obtain ⟨M13, eM13, h⟩ := bd h
                have w := oX10_restart fu q12  M10 hB rq12 eM13
                have hS := hS.tr w.1
                have hB := w.2
                obtain ⟨v14, ev14, h⟩ := bd h
                have iv14 := gR_in hB (show 11 ≤ 11 from by decide) ev14
                obtain ⟨q15, eq15, h⟩ := bd h
                have rq15 := rc_in hB (show 4 ≤ 11 from by decide) eq15
                obtain ⟨M16, eM16, h⟩ := bd h
                have w := oX4_restart fu q15 a1 v3 a3 (a4 &&& (65535 : Int32)) a5 M13 hB rq15 eM16
                have hS := hS.tr w.1
                have hB := w.2
                obtain ⟨v17, ev17, h⟩ := bd h
                have iv17 := gR_in hB (show 11 ≤ 11 from by decide) ev17
                obtain ⟨q18, eq18, h⟩ := bd h
                have rq18 := rc_in hB (show 3 ≤ 11 from by decide) eq18
                obtain ⟨M19, eM19, h⟩ := bd h
                have w := oX3_restart fu q18  M16 hB rq18 eM19
                have hS := hS.tr w.1
                have hB := w.2
                obtain ⟨v20, ev20, h⟩ := bd h
                have iv20 := gR_in hB (show 11 ≤ 11 from by decide) ev20
                obtain ⟨q21, eq21, h⟩ := bd h
                have rq21 := rc_in hB (show 9 ≤ 11 from by decide) eq21
                obtain ⟨M22, eM22, h⟩ := bd h
                have w := oX9_restart fu q21  M19 hB rq21 eM22
                have hS := hS.tr w.1
                have hB := w.2
                obtain ⟨M23, eM23, h⟩ := bd h
                have w := pZ_own hB (show 11 ≤ 11 from by decide) eM23
                have hS := hS.tr w.1
                have hB := w.2
                obtain ⟨v24, ev24, h⟩ := bd h
                have iv24 := gR_in hB (show 11 ≤ 11 from by decide) ev24
                obtain ⟨v25, ev25, h⟩ := bd h
                obtain rfl := Option.some.inj h
                exact ⟨hS, hB⟩
            · have h := (if_neg hc).symm.trans h
              obtain rfl := Option.some.inj h
              exact ⟨hS, hB⟩
        · have h := (if_neg hc).symm.trans h
          obtain rfl := Option.some.inj h
          exact ⟨hS, hB⟩
theorem oX11_refusal (fu : Nat)   (a0 : Nat) (a1 : Int32)  (M : Mm) {out : Int32 × Mm} (hB : Bd RX TX M) (ra0 : RX a0) (h : fX11_refusal fu  a0 a1 M = some out) : Sm RX M out.2 ∧ Bd RX TX out.2 := by
  unfold fX11_refusal at h
  have hS : Sm RX M M := Sm.rf
  obtain ⟨v1, ev1, h⟩ := bd h
  by_cases hc : v1 = 0
  · have h := (if_pos hc).symm.trans h
    obtain rfl := Option.some.inj h
    exact ⟨hS, hB⟩
  · have h := (if_neg hc).symm.trans h
    obtain ⟨v2, ev2, h⟩ := bd h
    have iv2 := gR_in hB (show 11 ≤ 11 from by decide) ev2
    obtain ⟨v3, ev3, h⟩ := bd h
    by_cases hc : a1 < v3
    · have h := (if_pos hc).symm.trans h
      obtain rfl := Option.some.inj h
      exact ⟨hS, hB⟩
    · have h := (if_neg hc).symm.trans h
      by_cases hc : (2000000000 : Int32) < a1
      · have h := (if_pos hc).symm.trans h
        obtain rfl := Option.some.inj h
        exact ⟨hS, hB⟩
      · have h := (if_neg hc).symm.trans h
        obtain ⟨v4, ev4, h⟩ := bd h
        have iv4 := gR_in hB (show 11 ≤ 11 from by decide) ev4
        obtain ⟨v5, ev5, h⟩ := bd h
        by_cases hc : (a1 - v5) ≤ (600000 : Int32)
        · have h := (if_pos hc).symm.trans h
          obtain rfl := Option.some.inj h
          exact ⟨hS, hB⟩
        · have h := (if_neg hc).symm.trans h
          obtain rfl := Option.some.inj h
          exact ⟨hS, hB⟩
theorem oX11_goOn_L133 (fu : Nat) {out : Mm} (k2 : Nat → Int32 → Int32 → Mm → Option (Mm)) (hk2 : ∀ (b0 : Nat) (b1 : Int32) (b2 : Int32)  (M : Mm), Bd RX TX M → RX b0 → k2 b0 b1 b2 M = some out → Sm RX M out ∧ Bd RX TX out) (a0 : Nat) (a1 : Int32) (a2 : Int32)  (M : Mm) (hB : Bd RX TX M) (ra0 : RX a0) (h : fX11_goOn_L133 fu k2 a0 a1 a2 M = some out) : Sm RX M out ∧ Bd RX TX out := by
  unfold fX11_goOn_L133 at h
  have hS : Sm RX M M := Sm.rf
  have z := hk2 a0 a1 (a2 + (1 : Int32)) M hB ra0 h
  exact ⟨hS.tr z.1, z.2⟩
theorem oX11_goOn_L2 (fu : Nat) {out : Mm}   : ∀ (n : Nat) (a0 : Nat) (a1 : Int32) (a2 : Int32)  (M : Mm), Bd RX TX M → RX a0 → fX11_goOn_L2 fu  n a0 a1 a2 M = some out → Sm RX M out ∧ Bd RX TX out := by
  intro n
  induction n with
  | zero =>
    intro a0 a1 a2 M hB ra0 h
    have h : (none : Option (Mm)) = some out := h
    cases h
  | succ n ih =>
    intro a0 a1 a2 M hB ra0 h
    rw [fX11_goOn_L2] at h
    have hS : Sm RX M M := Sm.rf
    by_cases hc : (1000000 : Int32) ≤ a2
    · have h := (if_pos hc).symm.trans h
      obtain ⟨v1, ev1, h⟩ := bd h
      have iv1 := gR_in hB (show 11 ≤ 11 from by decide) ev1
      obtain ⟨M2, eM2, h⟩ := bd h
      have w := pF_own hB (show 10 ≤ 11 from by decide) eM2
      have hS := hS.tr w.1
      have hB := w.2
      obtain rfl := Option.some.inj h
      exact ⟨hS, hB⟩
    · have h := (if_neg hc).symm.trans h
      obtain ⟨v3, ev3, h⟩ := bd h
      have iv3 := gR_in hB (show 11 ≤ 11 from by decide) ev3
      obtain ⟨q4, eq4, h⟩ := bd h
      have rq4 := rc_in hB (show 4 ≤ 11 from by decide) eq4
      obtain ⟨v6, M5, eM5, h⟩ := b2d h
      have w := oX4_earliest fu q4  M hB rq4 eM5
      have hS := hS.tr w.1
      have hB := w.2
      obtain ⟨v7, ev7, h⟩ := bd h
      have iv7 := gR_in hB (show 11 ≤ 11 from by decide) ev7
      obtain ⟨q8, eq8, h⟩ := bd h
      have rq8 := rc_in hB (show 3 ≤ 11 from by decide) eq8
      obtain ⟨v10, M9, eM9, h⟩ := b2d h
      have w := oX3_earliest fu q8  M5 hB rq8 eM9
      have hS := hS.tr w.1
      have hB := w.2
      obtain ⟨v11, ev11, h⟩ := bd h
      have iv11 := gR_in hB (show 11 ≤ 11 from by decide) ev11
      obtain ⟨q12, eq12, h⟩ := bd h
      have rq12 := rc_in hB (show 9 ≤ 11 from by decide) eq12
      obtain ⟨v14, M13, eM13, h⟩ := b2d h
      have w := oX9_earliest fu q12  M9 hB rq12 eM13
      have hS := hS.tr w.1
      have hB := w.2
      by_cases hc : (jmin v6 (jmin v10 v14)) ≤ a1
      · have h := (if_pos hc).symm.trans h
        obtain ⟨v15, ev15, h⟩ := bd h
        have iv15 := gR_in hB (show 11 ≤ 11 from by decide) ev15
        obtain ⟨M16, eM16, h⟩ := bd h
        have w := pF_own hB (show 10 ≤ 11 from by decide) eM16
        have hS := hS.tr w.1
        have hB := w.2
        obtain ⟨v17, ev17, h⟩ := bd h
        have iv17 := gR_in hB (show 11 ≤ 11 from by decide) ev17
        obtain ⟨q18, eq18, h⟩ := bd h
        have rq18 := rc_in hB (show 4 ≤ 11 from by decide) eq18
        obtain ⟨v20, M19, eM19, h⟩ := b2d h
        have w := oX4_repeat fu q18 (jmin v6 (jmin v10 v14)) M16 hB rq18 eM19
        have hS := hS.tr w.1
        have hB := w.2
        by_cases hc : v20 = 0
        · have h := (if_pos hc).symm.trans h
          obtain ⟨v21, ev21, h⟩ := bd h
          have iv21 := gR_in hB (show 11 ≤ 11 from by decide) ev21
          obtain ⟨q22, eq22, h⟩ := bd h
          have rq22 := rc_in hB (show 3 ≤ 11 from by decide) eq22
          obtain ⟨v24, M23, eM23, h⟩ := b2d h
          have w := oX3_expire fu q22 (jmin v6 (jmin v10 v14)) M19 hB rq22 eM23
          have hS := hS.tr w.1
          have hB := w.2
          by_cases hc : v24 = 0
          · have h := (if_pos hc).symm.trans h
            obtain ⟨v25, ev25, h⟩ := bd h
            have iv25 := gR_in hB (show 11 ≤ 11 from by decide) ev25
            obtain ⟨q26, eq26, h⟩ := bd h
            have rq26 := rc_in hB (show 9 ≤ 11 from by decide) eq26
            obtain ⟨v28, M27, eM27, h⟩ := b2d h
            have w := oX9_dueFirst fu q26 (jmin v6 (jmin v10 v14)) M23 hB rq26 eM27
            have hS := hS.tr w.1
            have iv28 := w.2.2
            have hB := w.2.1
            by_cases hc : v28 = none
            · have h := (if_pos hc).symm.trans h
              obtain ⟨v39, ev39, h⟩ := bd h
              have iv39 := gR_in hB (show 11 ≤ 11 from by decide) ev39
              obtain ⟨M40, eM40, h⟩ := bd h
              have w := pF_own hB (show 10 ≤ 11 from by decide) eM40
              have hS := hS.tr w.1
              have hB := w.2
              obtain rfl := Option.some.inj h
              exact ⟨hS, hB⟩
            · have h := (if_neg hc).symm.trans h
              obtain ⟨v29, ev29, h⟩ := bd h
              have iv29 := gR_in hB (show 1 ≤ 11 from by decide) ev29
              obtain ⟨v30, ev30, h⟩ := bd h
              by_cases hc : v30 = (jmin v6 (jmin v10 v14))
              · have h := (if_pos hc).symm.trans h
                obtain ⟨v36, ev36, h⟩ := bd h
                have iv36 := gR_in hB (show 11 ≤ 11 from by decide) ev36
                obtain ⟨q37, eq37, h⟩ := bd h
                have rq37 := rc_in hB (show 9 ≤ 11 from by decide) eq37
                obtain ⟨M38, eM38, h⟩ := bd h
                have w := oX9_runOut fu q37 v28 M27 hB rq37 iv28 eM38
                have hS := hS.tr w.1
                have hB := w.2
                have z := oX11_goOn_L133 fu (fun b0 b1 b2 M => fX11_goOn_L2 fu  n b0 b1 b2 M) ih a0 a1 a2 M38 hB ra0 h
                exact ⟨hS.tr z.1, z.2⟩
              · have h := (if_neg hc).symm.trans h
                obtain ⟨q31, eq31, h⟩ := bd h
                have rq31 := rc_in hB (show 1 ≤ 11 from by decide) eq31
                obtain ⟨M32, eM32, h⟩ := bd h
                have w := oX1_endLife fu q31  M27 hB rq31 eM32
                have hS := hS.tr w.1
                have hB := w.2
                obtain ⟨v33, ev33, h⟩ := bd h
                have iv33 := gR_in hB (show 11 ≤ 11 from by decide) ev33
                obtain ⟨q34, eq34, h⟩ := bd h
                have rq34 := rc_in hB (show 9 ≤ 11 from by decide) eq34
                obtain ⟨M35, eM35, h⟩ := bd h
                have w := oX9_sendWhatMay fu q34 v28 M32 hB rq34 iv28 eM35
                have hS := hS.tr w.1
                have hB := w.2
                have z := oX11_goOn_L133 fu (fun b0 b1 b2 M => fX11_goOn_L2 fu  n b0 b1 b2 M) ih a0 a1 a2 M35 hB ra0 h
                exact ⟨hS.tr z.1, z.2⟩
          · have h := (if_neg hc).symm.trans h
            have z := oX11_goOn_L133 fu (fun b0 b1 b2 M => fX11_goOn_L2 fu  n b0 b1 b2 M) ih a0 a1 a2 M23 hB ra0 h
            exact ⟨hS.tr z.1, z.2⟩
        · have h := (if_neg hc).symm.trans h
          have z := oX11_goOn_L133 fu (fun b0 b1 b2 M => fX11_goOn_L2 fu  n b0 b1 b2 M) ih a0 a1 a2 M19 hB ra0 h
          exact ⟨hS.tr z.1, z.2⟩
      · have h := (if_neg hc).symm.trans h
        obtain ⟨v41, ev41, h⟩ := bd h
        have iv41 := gR_in hB (show 11 ≤ 11 from by decide) ev41
        obtain ⟨M42, eM42, h⟩ := bd h
        have w := pF_own hB (show 10 ≤ 11 from by decide) eM42
        have hS := hS.tr w.1
        have hB := w.2
        obtain rfl := Option.some.inj h
        exact ⟨hS, hB⟩
theorem oX11_goOn (fu : Nat)   (a0 : Nat) (a1 : Int32)  (M : Mm) {out : Mm} (hB : Bd RX TX M) (ra0 : RX a0) (h : fX11_goOn fu  a0 a1 M = some out) : Sm RX M out ∧ Bd RX TX out := by
  unfold fX11_goOn at h
  have hS : Sm RX M M := Sm.rf
  have z := oX11_goOn_L2 fu   fu a0 a1 (0 : Int32) M hB ra0 h
  exact ⟨hS.tr z.1, z.2⟩
theorem oX11_arrive_L167 (fu : Nat)   (a0 : Nat) (a3 : Int32)  (M : Mm) {out : Int32 × Mm} (hB : Bd RX TX M) (ra0 : RX a0) (h : fX11_arrive_L167 fu  a0 a3 M = some out) : Sm RX M out.2 ∧ Bd RX TX out.2 := by
  unfold fX11_arrive_L167 at h
  have hS : Sm RX M M := Sm.rf
  obtain ⟨M1, eM1, h⟩ := bd h
  have w := pF_own hB (show 11 ≤ 11 from by decide) eM1
  have hS := hS.tr w.1
  have hB := w.2
  obtain ⟨v2, ev2, h⟩ := bd h
  have iv2 := gR_in hB (show 11 ≤ 11 from by decide) ev2
  obtain ⟨v3, ev3, h⟩ := bd h
  obtain rfl := Option.some.inj h
  exact ⟨hS, hB⟩
theorem oX11_arrive (fu : Nat)   (a0 : Nat) (a1 : Int32)  (M : Mm) {out : Int32 × Mm} (hB : Bd RX TX M) (ra0 : RX a0) (h : fX11_arrive fu  a0 a1 M = some out) : Sm RX M out.2 ∧ Bd RX TX out.2 := by
  unfold fX11_arrive at h
  have hS : Sm RX M M := Sm.rf
  obtain ⟨q1, eq1, h⟩ := bd h
  have rq1 := rc_in hB (show 11 ≤ 11 from by decide) eq1
  obtain ⟨v3, M2, eM2, h⟩ := b2d h
  have w := oX11_refusal fu q1 a1 M hB rq1 eM2
  have hS := hS.tr w.1
  have hB := w.2
  by_cases hc : v3 = 0
  · have h := (if_pos hc).symm.trans h
    obtain ⟨v4, ev4, h⟩ := bd h
    by_cases hc : v4 < (1 : Int32)
    · have h := (if_pos hc).symm.trans h
      obtain rfl := Option.some.inj h
      exact ⟨hS, hB⟩
    · have h := (if_neg hc).symm.trans h
      obtain ⟨v5, ev5, h⟩ := bd h
      by_cases hc : v5 ≤ (1514 : Int32)
      · have h := (if_pos hc).symm.trans h
        obtain ⟨v6, ev6, h⟩ := bd h
        have iv6 := gR_in hB (show 11 ≤ 11 from by decide) ev6
        obtain ⟨v7, ev7, h⟩ := bd h
        obtain ⟨q8, eq8, h⟩ := bd h
        have rq8 := rc_in hB (show 11 ≤ 11 from by decide) eq8
        obtain ⟨M9, eM9, h⟩ := bd h
        have w := oX11_goOn fu q8 a1 M2 hB rq8 eM9
        have hS := hS.tr w.1
        have hB := w.2
        obtain ⟨v10, ev10, h⟩ := bd h
        have iv10 := gR_in hB (show 11 ≤ 11 from by decide) ev10
        obtain ⟨v11, ev11, h⟩ := bd h
        have iv11 := gR_in hB (show 10 ≤ 11 from by decide) ev11
        obtain ⟨v12, ev12, h⟩ := bd h
        obtain ⟨M13, eM13, h⟩ := bd h
        have w := pA_own hB iv11 (by decide) eM13
        have hS := hS.tr w.1
        have hB := w.2
        obtain ⟨v14, ev14, h⟩ := bd h
        have iv14 := gR_in hB (show 11 ≤ 11 from by decide) ev14
        obtain ⟨v15, ev15, h⟩ := bd h
        have iv15 := gR_in hB (show 11 ≤ 11 from by decide) ev15
        obtain ⟨v16, ev16, h⟩ := bd h
        obtain ⟨q17, eq17, h⟩ := bd h
        have rq17 := rc_in hB (show 3 ≤ 11 from by decide) eq17
        obtain ⟨v19, M18, eM18, h⟩ := b2d h
        have w := oX3_read fu q17 v15 v16 M13 hB rq17 iv15 eM18
        have hS := hS.tr w.1
        have hB := w.2
        by_cases hc : v19 = (2054 : Int32)
        · have h := (if_pos hc).symm.trans h
          obtain ⟨v37, ev37, h⟩ := bd h
          have iv37 := gR_in hB (show 11 ≤ 11 from by decide) ev37
          obtain ⟨v38, ev38, h⟩ := bd h
          have iv38 := gR_in hB (show 11 ≤ 11 from by decide) ev38
          obtain ⟨v39, ev39, h⟩ := bd h
          obtain ⟨q40, eq40, h⟩ := bd h
          have rq40 := rc_in hB (show 4 ≤ 11 from by decide) eq40
          obtain ⟨M41, eM41, h⟩ := bd h
          have w := oX4_takeArp fu q40 v38 v39 M18 hB rq40 iv38 eM41
          have hS := hS.tr w.1
          have hB := w.2
          have z := oX11_arrive_L167 fu   a0 v7 M41 hB ra0 h
          exact ⟨hS.tr z.1, z.2⟩
        · have h := (if_neg hc).symm.trans h
          by_cases hc : v19 = (1 : Int32)
          · have h := (if_pos hc).symm.trans h
            obtain ⟨v34, ev34, h⟩ := bd h
            have iv34 := gR_in hB (show 11 ≤ 11 from by decide) ev34
            obtain ⟨q35, eq35, h⟩ := bd h
            have rq35 := rc_in hB (show 3 ≤ 11 from by decide) eq35
            obtain ⟨M36, eM36, h⟩ := bd h
            have w := oX3_echo fu q35  M18 hB rq35 eM36
            have hS := hS.tr w.1
            have hB := w.2
            have z := oX11_arrive_L167 fu   a0 v7 M36 hB ra0 h
            exact ⟨hS.tr z.1, z.2⟩
          · have h := (if_neg hc).symm.trans h
            by_cases hc : v19 = (6 : Int32)
            · have h := (if_pos hc).symm.trans h
              obtain ⟨v20, ev20, h⟩ := bd h
              have iv20 := gR_in hB (show 11 ≤ 11 from by decide) ev20
              obtain ⟨q21, eq21, h⟩ := bd h
              have rq21 := rc_in hB (show 3 ≤ 11 from by decide) eq21
              obtain ⟨v23, M22, eM22, h⟩ := b2d h
              have w := oX3_readSegment fu q21  M18 hB rq21 eM22
              have hS := hS.tr w.1
              have hB := w.2
              by_cases hc : v23 = 0
              · have h := (if_pos hc).symm.trans h
                have z := oX11_arrive_L167 fu   a0 v7 M22 hB ra0 h
                exact ⟨hS.tr z.1, z.2⟩
              · have h := (if_neg hc).symm.trans h
                obtain ⟨v24, ev24, h⟩ := bd h
                have iv24 := gR_in hB (show 11 ≤ 11 from by decide) ev24
                obtain ⟨q25, eq25, h⟩ := bd h
                have rq25 := rc_in hB (show 9 ≤ 11 from by decide) eq25
                obtain ⟨v27, M26, eM26, h⟩ := b2d h
                have w := oX9_take fu q25  M22 hB rq25 eM26
                have hS := hS.tr w.1
                have iv27 := w.2.2
                have hB := w.2.1
                by_cases hc : v27 = none
                · have h := (if_pos hc).symm.trans h
                  have z := oX11_arrive_L167 fu   a0 v7 M26 hB ra0 h
                  exact ⟨hS.tr z.1, z.2⟩
                · have h := (if_neg hc).symm.trans h
                  obtain ⟨v28, ev28, h⟩ := bd h
                  have iv28 := gR_in hB (show 11 ≤ 11 from by decide) ev28
                  obtain ⟨q29, eq29, h⟩ := bd h
                  have rq29 := rc_in hB (show 7 ≤ 11 from by decide) eq29
                  obtain ⟨M30, eM30, h⟩ := bd h
                  have w := oX7_lookAt fu q29 v27 M26 hB rq29 iv27 eM30
                  have hS := hS.tr w.1
                  have hB := w.2
                  obtain ⟨v31, ev31, h⟩ := bd h
                  have iv31 := gR_in hB (show 11 ≤ 11 from by decide) ev31
                  obtain ⟨q32, eq32, h⟩ := bd h
                  have rq32 := rc_in hB (show 9 ≤ 11 from by decide) eq32
                  obtain ⟨M33, eM33, h⟩ := bd h
                  have w := oX9_sendAllDue fu q32 v27 M30 hB rq32 iv27 eM33
                  have hS := hS.tr w.1
                  have hB := w.2
                  have z := oX11_arrive_L167 fu   a0 v7 M33 hB ra0 h
                  exact ⟨hS.tr z.1, z.2⟩
            · have h := (if_neg hc).symm.trans h
              have z := oX11_arrive_L167 fu   a0 v7 M18 hB ra0 h
              exact ⟨hS.tr z.1, z.2⟩
      · have h := (if_neg hc).symm.trans h
        obtain rfl := Option.some.inj h
        exact ⟨hS, hB⟩
  · have h := (if_neg hc).symm.trans h
    obtain rfl := Option.some.inj h
    exact ⟨hS, hB⟩
theorem oX11_pass (fu : Nat)   (a0 : Nat) (a1 : Int32)  (M : Mm) {out : Int32 × Mm} (hB : Bd RX TX M) (ra0 : RX a0) (h : fX11_pass fu  a0 a1 M = some out) : Sm RX M out.2 ∧ Bd RX TX out.2 := by
  unfold fX11_pass at h
  have hS : Sm RX M M := Sm.rf
  obtain ⟨q1, eq1, h⟩ := bd h
  have rq1 := rc_in hB (show 11 ≤ 11 from by decide) eq1
  obtain ⟨v3, M2, eM2, h⟩ := b2d h
  have w := oX11_refusal fu q1 a1 M hB rq1 eM2
  have hS := hS.tr w.1
  have hB := w.2
  by_cases hc : v3 = 0
  · have h := (if_pos hc).symm.trans h
    obtain ⟨v4, ev4, h⟩ := bd h
    have iv4 := gR_in hB (show 11 ≤ 11 from by decide) ev4
    obtain ⟨v5, ev5, h⟩ := bd h
    obtain ⟨q6, eq6, h⟩ := bd h
    have rq6 := rc_in hB (show 11 ≤ 11 from by decide) eq6
    obtain ⟨M7, eM7, h⟩ := bd h
    have w := oX11_goOn fu q6 a1 M2 hB rq6 eM7
    have hS := hS.tr w.1
    have hB := w.2
    obtain ⟨v8, ev8, h⟩ := bd h
    have iv8 := gR_in hB (show 11 ≤ 11 from by decide) ev8
    obtain ⟨v9, ev9, h⟩ := bd h
    obtain rfl := Option.some.inj h
    exact ⟨hS, hB⟩
  · have h := (if_neg hc).symm.trans h
    obtain rfl := Option.some.inj h
    exact ⟨hS, hB⟩
theorem oX11_now (fu : Nat)   (a0 : Nat)  (M : Mm) {out : Int32 × Mm} (hB : Bd RX TX M) (ra0 : RX a0) (h : fX11_now fu  a0 M = some out) : Sm RX M out.2 ∧ Bd RX TX out.2 := by
  unfold fX11_now at h
  have hS : Sm RX M M := Sm.rf
  obtain ⟨v1, ev1, h⟩ := bd h
  by_cases hc : v1 = 0
  · have h := (if_pos hc).symm.trans h
    obtain rfl := Option.some.inj h
    exact ⟨hS, hB⟩
  · have h := (if_neg hc).symm.trans h
    obtain ⟨v2, ev2, h⟩ := bd h
    have iv2 := gR_in hB (show 11 ≤ 11 from by decide) ev2
    obtain ⟨v3, ev3, h⟩ := bd h
    obtain rfl := Option.some.inj h
    exact ⟨hS, hB⟩
theorem oX11_sent (fu : Nat)   (a0 : Nat)  (M : Mm) {out : Int32 × Mm} (hB : Bd RX TX M) (ra0 : RX a0) (h : fX11_sent fu  a0 M = some out) : Sm RX M out.2 ∧ Bd RX TX out.2 := by
  unfold fX11_sent at h
  have hS : Sm RX M M := Sm.rf
  obtain ⟨v1, ev1, h⟩ := bd h
  by_cases hc : v1 = 0
  · have h := (if_pos hc).symm.trans h
    obtain rfl := Option.some.inj h
    exact ⟨hS, hB⟩
  · have h := (if_neg hc).symm.trans h
    obtain ⟨v2, ev2, h⟩ := bd h
    have iv2 := gR_in hB (show 11 ≤ 11 from by decide) ev2
    obtain ⟨v3, ev3, h⟩ := bd h
    obtain rfl := Option.some.inj h
    exact ⟨hS, hB⟩
theorem oX11_frameBack (fu : Nat)   (a0 : Nat) (a1 : Int32)  (M : Mm) {out : Option Nat × Mm} (hB : Bd RX TX M) (ra0 : RX a0) (h : fX11_frameBack fu  a0 a1 M = some out) : Sm RX M out.2 ∧ Bd RX TX out.2 ∧ inR RX out.1 := by
  unfold fX11_frameBack at h
  have hS : Sm RX M M := Sm.rf
  obtain ⟨v1, ev1, h⟩ := bd h
  by_cases hc : v1 = 0
  · have h := (if_pos hc).symm.trans h
    obtain rfl := Option.some.inj h
    exact ⟨hS, hB, inR_none⟩
  · have h := (if_neg hc).symm.trans h
    obtain ⟨v2, ev2, h⟩ := bd h
    have iv2 := gR_in hB (show 11 ≤ 11 from by decide) ev2
    obtain ⟨q3, eq3, h⟩ := bd h
    have rq3 := rc_in hB (show 10 ≤ 11 from by decide) eq3
    obtain ⟨v5, M4, eM4, h⟩ := b2d h
    have w := oX10_back fu q3 a1 M hB rq3 eM4
    have hS := hS.tr w.1
    have iv5 := w.2.2
    have hB := w.2.1
    obtain rfl := Option.some.inj h
    exact ⟨hS, hB, iv5⟩
theorem oX11_length (fu : Nat)   (a0 : Nat) (a1 : Int32)  (M : Mm) {out : Int32 × Mm} (hB : Bd RX TX M) (ra0 : RX a0) (h : fX11_length fu  a0 a1 M = some out) : Sm RX M out.2 ∧ Bd RX TX out.2 := by
  unfold fX11_length at h
  have hS : Sm RX M M := Sm.rf
  obtain ⟨q1, eq1, h⟩ := bd h
  have rq1 := rc_in hB (show 11 ≤ 11 from by decide) eq1
  obtain ⟨v3, M2, eM2, h⟩ := b2d h
  have w := oX11_frameBack fu q1 a1 M hB rq1 eM2
  have hS := hS.tr w.1
  have iv3 := w.2.2
  have hB := w.2.1
  by_cases hc : v3 = none
  · have h := (if_pos hc).symm.trans h
    obtain rfl := Option.some.inj h
    exact ⟨hS, hB⟩
  · have h := (if_neg hc).symm.trans h
    obtain ⟨v4, ev4, h⟩ := bd h
    obtain rfl := Option.some.inj h
    exact ⟨hS, hB⟩
theorem oX11_at (fu : Nat)   (a0 : Nat) (a1 : Int32) (a2 : Int32)  (M : Mm) {out : Int32 × Mm} (hB : Bd RX TX M) (ra0 : RX a0) (h : fX11_at fu  a0 a1 a2 M = some out) : Sm RX M out.2 ∧ Bd RX TX out.2 := by
  unfold fX11_at at h
  have hS : Sm RX M M := Sm.rf
  obtain ⟨q1, eq1, h⟩ := bd h
  have rq1 := rc_in hB (show 11 ≤ 11 from by decide) eq1
  obtain ⟨v3, M2, eM2, h⟩ := b2d h
  have w := oX11_frameBack fu q1 a1 M hB rq1 eM2
  have hS := hS.tr w.1
  have iv3 := w.2.2
  have hB := w.2.1
  by_cases hc : v3 = none
  · have h := (if_pos hc).symm.trans h
    obtain rfl := Option.some.inj h
    exact ⟨hS, hB⟩
  · have h := (if_neg hc).symm.trans h
    by_cases hc : a2 < 0
    · have h := (if_pos hc).symm.trans h
      obtain rfl := Option.some.inj h
      exact ⟨hS, hB⟩
    · have h := (if_neg hc).symm.trans h
      obtain ⟨v4, ev4, h⟩ := bd h
      by_cases hc : v4 ≤ a2
      · have h := (if_pos hc).symm.trans h
        obtain rfl := Option.some.inj h
        exact ⟨hS, hB⟩
      · have h := (if_neg hc).symm.trans h
        obtain ⟨v5, ev5, h⟩ := bd h
        have iv5 := gR_in hB (show 6 ≤ 11 from by decide) ev5
        obtain ⟨v6, ev6, h⟩ := bd h
        by_cases hc : a2 < v6
        · have h := (if_pos hc).symm.trans h
          obtain ⟨v7, ev7, h⟩ := bd h
          have iv7 := gR_in hB (show 6 ≤ 11 from by decide) ev7
          obtain ⟨v8, ev8, h⟩ := bd h
          obtain rfl := Option.some.inj h
          exact ⟨hS, hB⟩
        · have h := (if_neg hc).symm.trans h
          obtain rfl := Option.some.inj h
          exact ⟨hS, hB⟩
theorem oX11_time (fu : Nat)   (a0 : Nat) (a1 : Int32)  (M : Mm) {out : Int32 × Mm} (hB : Bd RX TX M) (ra0 : RX a0) (h : fX11_time fu  a0 a1 M = some out) : Sm RX M out.2 ∧ Bd RX TX out.2 := by
  unfold fX11_time at h
  have hS : Sm RX M M := Sm.rf
  obtain ⟨q1, eq1, h⟩ := bd h
  have rq1 := rc_in hB (show 11 ≤ 11 from by decide) eq1
  obtain ⟨v3, M2, eM2, h⟩ := b2d h
  have w := oX11_frameBack fu q1 a1 M hB rq1 eM2
  have hS := hS.tr w.1
  have iv3 := w.2.2
  have hB := w.2.1
  by_cases hc : v3 = none
  · have h := (if_pos hc).symm.trans h
    obtain rfl := Option.some.inj h
    exact ⟨hS, hB⟩
  · have h := (if_neg hc).symm.trans h
    obtain ⟨v4, ev4, h⟩ := bd h
    obtain rfl := Option.some.inj h
    exact ⟨hS, hB⟩
theorem oX11_connectionAt (fu : Nat)   (a0 : Nat) (a1 : Int32)  (M : Mm) {out : Option Nat × Mm} (hB : Bd RX TX M) (ra0 : RX a0) (h : fX11_connectionAt fu  a0 a1 M = some out) : Sm RX M out.2 ∧ Bd RX TX out.2 ∧ inR RX out.1 := by
  unfold fX11_connectionAt at h
  have hS : Sm RX M M := Sm.rf
  obtain ⟨v1, ev1, h⟩ := bd h
  by_cases hc : v1 = 0
  · have h := (if_pos hc).symm.trans h
    obtain rfl := Option.some.inj h
    exact ⟨hS, hB, inR_none⟩
  · have h := (if_neg hc).symm.trans h
    obtain ⟨v2, ev2, h⟩ := bd h
    have iv2 := gR_in hB (show 11 ≤ 11 from by decide) ev2
    obtain ⟨q3, eq3, h⟩ := bd h
    have rq3 := rc_in hB (show 9 ≤ 11 from by decide) eq3
    obtain ⟨v5, M4, eM4, h⟩ := b2d h
    have w := oX9_connectionAt fu q3 a1 M hB rq3 eM4
    have hS := hS.tr w.1
    have iv5 := w.2.2
    have hB := w.2.1
    obtain rfl := Option.some.inj h
    exact ⟨hS, hB, iv5⟩
theorem oX11_state (fu : Nat)   (a0 : Nat) (a1 : Int32)  (M : Mm) {out : Int32 × Mm} (hB : Bd RX TX M) (ra0 : RX a0) (h : fX11_state fu  a0 a1 M = some out) : Sm RX M out.2 ∧ Bd RX TX out.2 := by
  unfold fX11_state at h
  have hS : Sm RX M M := Sm.rf
  by_cases hc : a1 < 0
  · have h := (if_pos hc).symm.trans h
    obtain rfl := Option.some.inj h
    exact ⟨hS, hB⟩
  · have h := (if_neg hc).symm.trans h
    by_cases hc : a1 < (16 : Int32)
    · have h := (if_pos hc).symm.trans h
      obtain ⟨q1, eq1, h⟩ := bd h
      have rq1 := rc_in hB (show 11 ≤ 11 from by decide) eq1
      obtain ⟨v3, M2, eM2, h⟩ := b2d h
      have w := oX11_connectionAt fu q1 a1 M hB rq1 eM2
      have hS := hS.tr w.1
      have iv3 := w.2.2
      have hB := w.2.1
      by_cases hc : v3 = none
      · have h := (if_pos hc).symm.trans h
        obtain rfl := Option.some.inj h
        exact ⟨hS, hB⟩
      · have h := (if_neg hc).symm.trans h
        obtain ⟨v4, ev4, h⟩ := bd h
        obtain rfl := Option.some.inj h
        exact ⟨hS, hB⟩
    · have h := (if_neg hc).symm.trans h
      obtain rfl := Option.some.inj h
      exact ⟨hS, hB⟩
theorem oX11_look (fu : Nat)   (a0 : Nat) (a1 : Int32) (a2 : Int32)  (M : Mm) {out : Int64 × Mm} (hB : Bd RX TX M) (ra0 : RX a0) (h : fX11_look fu  a0 a1 a2 M = some out) : Sm RX M out.2 ∧ Bd RX TX out.2 := by
  unfold fX11_look at h
  have hS : Sm RX M M := Sm.rf
  obtain ⟨q1, eq1, h⟩ := bd h
  have rq1 := rc_in hB (show 11 ≤ 11 from by decide) eq1
  obtain ⟨v3, M2, eM2, h⟩ := b2d h
  have w := oX11_connectionAt fu q1 a1 M hB rq1 eM2
  have hS := hS.tr w.1
  have iv3 := w.2.2
  have hB := w.2.1
  by_cases hc : v3 = none
  · have h := (if_pos hc).symm.trans h
    obtain rfl := Option.some.inj h
    exact ⟨hS, hB⟩
  · have h := (if_neg hc).symm.trans h
    by_cases hc : a2 < 0
    · have h := (if_pos hc).symm.trans h
      obtain rfl := Option.some.inj h
      exact ⟨hS, hB⟩
    · have h := (if_neg hc).symm.trans h
      by_cases hc : a2 ≤ (14 : Int32)
      · have h := (if_pos hc).symm.trans h
        obtain ⟨q4, eq4, h⟩ := bd h
        have rq4 := rc_in hB (show 1 ≤ 11 from by decide) eq4
        obtain ⟨v6, M5, eM5, h⟩ := b2d h
        have w := oX1_number fu q4 a2 M2 hB rq4 eM5
        have hS := hS.tr w.1
        have hB := w.2
        obtain rfl := Option.some.inj h
        exact ⟨hS, hB⟩
      · have h := (if_neg hc).symm.trans h
        obtain rfl := Option.some.inj h
        exact ⟨hS, hB⟩
theorem oX11_cached (fu : Nat)   (a0 : Nat) (a1 : Int32)  (M : Mm) {out : Int32 × Mm} (hB : Bd RX TX M) (ra0 : RX a0) (h : fX11_cached fu  a0 a1 M = some out) : Sm RX M out.2 ∧ Bd RX TX out.2 := by
  unfold fX11_cached at h
  have hS : Sm RX M M := Sm.rf
  obtain ⟨v1, ev1, h⟩ := bd h
  by_cases hc : v1 = 0
  · have h := (if_pos hc).symm.trans h
    obtain ⟨hz, rfl⟩ := rN_some h
    exact ⟨hS, hB⟩
  · have h := (if_neg hc).symm.trans h
    obtain ⟨v2, ev2, h⟩ := bd h
    have iv2 := gR_in hB (show 11 ≤ 11 from by decide) ev2
    obtain ⟨q3, eq3, h⟩ := bd h
    have rq3 := rc_in hB (show 4 ≤ 11 from by decide) eq3
    obtain ⟨v5, M4, eM4, h⟩ := b2d h
    have w := oX4_counting fu q3 a1 M hB rq3 eM4
    have hS := hS.tr w.1
    have hB := w.2
    by_cases hc : v5 < 0
    · have h := (if_pos hc).symm.trans h
      obtain ⟨hz, rfl⟩ := rN_some h
      exact ⟨hS, hB⟩
    · have h := (if_neg hc).symm.trans h
      obtain ⟨hz, rfl⟩ := rN_some h
      exact ⟨hS, hB⟩
theorem oX11_waiting (fu : Nat)   (a0 : Nat)  (M : Mm) {out : Int32 × Mm} (hB : Bd RX TX M) (ra0 : RX a0) (h : fX11_waiting fu  a0 M = some out) : Sm RX M out.2 ∧ Bd RX TX out.2 := by
  unfold fX11_waiting at h
  have hS : Sm RX M M := Sm.rf
  obtain ⟨v1, ev1, h⟩ := bd h
  by_cases hc : v1 = 0
  · have h := (if_pos hc).symm.trans h
    obtain rfl := Option.some.inj h
    exact ⟨hS, hB⟩
  · have h := (if_neg hc).symm.trans h
    obtain ⟨v2, ev2, h⟩ := bd h
    have iv2 := gR_in hB (show 11 ≤ 11 from by decide) ev2
    obtain ⟨v3, ev3, h⟩ := bd h
    obtain rfl := Option.some.inj h
    exact ⟨hS, hB⟩
theorem oX11_counted (fu : Nat)   (a0 : Nat) (a1 : Int32)  (M : Mm) {out : Int32 × Mm} (hB : Bd RX TX M) (ra0 : RX a0) (h : fX11_counted fu  a0 a1 M = some out) : Sm RX M out.2 ∧ Bd RX TX out.2 := by
  unfold fX11_counted at h
  have hS : Sm RX M M := Sm.rf
  obtain ⟨v1, ev1, h⟩ := bd h
  by_cases hc : v1 = 0
  · have h := (if_pos hc).symm.trans h
    obtain rfl := Option.some.inj h
    exact ⟨hS, hB⟩
  · have h := (if_neg hc).symm.trans h
    by_cases hc : a1 < 0
    · have h := (if_pos hc).symm.trans h
      obtain rfl := Option.some.inj h
      exact ⟨hS, hB⟩
    · have h := (if_neg hc).symm.trans h
      by_cases hc : a1 < (8 : Int32)
      · have h := (if_pos hc).symm.trans h
        obtain ⟨v2, ev2, h⟩ := bd h
        have iv2 := gR_in hB (show 11 ≤ 11 from by decide) ev2
        obtain ⟨v3, ev3, h⟩ := bd h
        have iv3 := gR_in hB (show 10 ≤ 11 from by decide) ev3
        obtain ⟨v4, ev4, h⟩ := bd h
        obtain rfl := Option.some.inj h
        exact ⟨hS, hB⟩
      · have h := (if_neg hc).symm.trans h
        obtain rfl := Option.some.inj h
        exact ⟨hS, hB⟩
theorem oX11_damage_L35 (fu : Nat)   (a0 : Nat) (a1 : Int32) (a2 : Int32)  (M : Mm) {out : Int32 × Mm} (hB : Bd RX TX M) (ra0 : RX a0) (h : fX11_damage_L35 fu  a0 a1 a2 M = some out) : Sm RX M out.2 ∧ Bd RX TX out.2 := by
  unfold fX11_damage_L35 at h
  have hS : Sm RX M M := Sm.rf
  obtain ⟨v1, ev1, h⟩ := bd h
  have iv1 := gR_in hB (show 11 ≤ 11 from by decide) ev1
  obtain ⟨v2, ev2, h⟩ := bd h
  have iv2 := gR_in hB (show 8 ≤ 11 from by decide) ev2
  obtain ⟨M3, eM3, h⟩ := bd h
  have w := pA_ownB hB iv2 eM3
  have hS := hS.tr w.1
  have hB := w.2
  obtain ⟨hz, rfl⟩ := rN_some h
  exact ⟨hS, hB⟩
theorem oX11_damage (fu : Nat)   (a0 : Nat) (a1 : Int32) (a2 : Int32)  (M : Mm) {out : Int32 × Mm} (hB : Bd RX TX M) (ra0 : RX a0) (h : fX11_damage fu  a0 a1 a2 M = some out) : Sm RX M out.2 ∧ Bd RX TX out.2 := by
  unfold fX11_damage at h
  have hS : Sm RX M M := Sm.rf
  by_cases hc : a1 < 0
  · have h := (if_pos hc).symm.trans h
    obtain ⟨hz, rfl⟩ := rN_some h
    exact ⟨hS, hB⟩
  · have h := (if_neg hc).symm.trans h
    obtain ⟨v1, ev1, h⟩ := bd h
    have iv1 := gR_in hB (show 11 ≤ 11 from by decide) ev1
    obtain ⟨v2, ev2, h⟩ := bd h
    have iv2 := gR_in hB (show 8 ≤ 11 from by decide) ev2
    obtain ⟨v3, ev3, h⟩ := bd h
    by_cases hc : v3 ≤ a1
    · have h := (if_pos hc).symm.trans h
      obtain ⟨hz, rfl⟩ := rN_some h
      exact ⟨hS, hB⟩
    · have h := (if_neg hc).symm.trans h
      obtain ⟨v4, ev4, h⟩ := bd h
      by_cases hc : v4 = 0
      · have h := (if_pos hc).symm.trans h
        have z := oX11_damage_L35 fu   a0 a1 a2 M hB ra0 h
        exact ⟨hS.tr z.1, z.2⟩
      · have h := (if_neg hc).symm.trans h
        obtain ⟨v5, ev5, h⟩ := bd h
        have iv5 := gR_in hB (show 11 ≤ 11 from by decide) ev5
        obtain ⟨q6, eq6, h⟩ := bd h
        have rq6 := rc_in hB (show 9 ≤ 11 from by decide) eq6
        obtain ⟨v8, M7, eM7, h⟩ := b2d h
        have w := oX9_isBusy fu q6  M hB rq6 eM7
        have hS := hS.tr w.1
        have hB := w.2
        by_cases hc : v8 = 0
        · have h := (if_pos hc).symm.trans h
          have z := oX11_damage_L35 fu   a0 a1 a2 M7 hB ra0 h
          exact ⟨hS.tr z.1, z.2⟩
        · have h := (if_neg hc).symm.trans h
          obtain ⟨hz, rfl⟩ := rN_some h
          exact ⟨hS, hB⟩
theorem oX11_strays (fu : Nat)   (a0 : Nat)  (M : Mm) {out : Int32 × Mm} (hB : Bd RX TX M) (ra0 : RX a0) (h : fX11_strays fu  a0 M = some out) : Sm RX M out.2 ∧ Bd RX TX out.2 := by
  unfold fX11_strays at h
  have hS : Sm RX M M := Sm.rf
  obtain ⟨v1, ev1, h⟩ := bd h
  by_cases hc : v1 = 0
  · have h := (if_pos hc).symm.trans h
    obtain rfl := Option.some.inj h
    exact ⟨hS, hB⟩
  · have h := (if_neg hc).symm.trans h
    obtain ⟨v2, ev2, h⟩ := bd h
    have iv2 := gR_in hB (show 11 ≤ 11 from by decide) ev2
    obtain ⟨v3, ev3, h⟩ := bd h
    obtain rfl := Option.some.inj h
    exact ⟨hS, hB⟩
theorem oX12_behind (fu : Nat)   (a0 : Nat)  (M : Mm) {out : Int32 × Mm} (hB : Bd RM TM M) (ra0 : RM a0) (h : fX12_behind fu  a0 M = some out) : Sm RM M out.2 ∧ Bd RM TM out.2 := by
  unfold fX12_behind at h
  have hS : Sm RM M M := Sm.rf
  obtain ⟨v1, ev1, h⟩ := bd h
  obtain ⟨v2, ev2, h⟩ := bd h
  obtain ⟨v3, ev3, h⟩ := bd h
  obtain rfl := Option.some.inj h
  exact ⟨hS, hB⟩
theorem oX12_left (fu : Nat)   (a0 : Nat) (a1 : Int32)  (M : Mm) {out : Int32 × Mm} (hB : Bd RM TM M) (ra0 : RM a0) (h : fX12_left fu  a0 a1 M = some out) : Sm RM M out.2 ∧ Bd RM TM out.2 := by
  unfold fX12_left at h
  have hS : Sm RM M M := Sm.rf
  obtain ⟨q1, eq1, h⟩ := bd h
  have rq1 := rc_in hB (show 12 ≤ 12 ∧ 12 ≤ 16 from by decide) eq1
  obtain ⟨v3, M2, eM2, h⟩ := b2d h
  have w := oX12_behind fu q1  M hB rq1 eM2
  have hS := hS.tr w.1
  have hB := w.2
  obtain ⟨v4, ev4, h⟩ := bd h
  by_cases hc : v4 = 0
  · have h := (if_pos hc).symm.trans h
    obtain rfl := Option.some.inj h
    exact ⟨hS, hB⟩
  · have h := (if_neg hc).symm.trans h
    obtain rfl := Option.some.inj h
    exact ⟨hS, hB⟩
theorem oX12_held (fu : Nat)   (a0 : Nat)  (M : Mm) {out : Int32 × Mm} (hB : Bd RM TM M) (ra0 : RM a0) (h : fX12_held fu  a0 M = some out) : Sm RM M out.2 ∧ Bd RM TM out.2 := by
  unfold fX12_held at h
  have hS : Sm RM M M := Sm.rf
  obtain ⟨v1, ev1, h⟩ := bd h
  obtain ⟨v2, ev2, h⟩ := bd h
  obtain ⟨v3, ev3, h⟩ := bd h
  by_cases hc : v3 = 0
  · have h := (if_pos hc).symm.trans h
    obtain rfl := Option.some.inj h
    exact ⟨hS, hB⟩
  · have h := (if_neg hc).symm.trans h
    obtain rfl := Option.some.inj h
    exact ⟨hS, hB⟩
theorem oX12_open (fu : Nat)   (a0 : Nat)  (M : Mm) {out : Int32 × Mm} (hB : Bd RM TM M) (ra0 : RM a0) (h : fX12_open fu  a0 M = some out) : Sm RM M out.2 ∧ Bd RM TM out.2 := by
  unfold fX12_open at h
  have hS : Sm RM M M := Sm.rf
  obtain ⟨q1, eq1, h⟩ := bd h
  have rq1 := rc_in hB (show 12 ≤ 12 ∧ 12 ≤ 16 from by decide) eq1
  obtain ⟨v3, M2, eM2, h⟩ := b2d h
  have w := oX12_held fu q1  M hB rq1 eM2
  have hS := hS.tr w.1
  have hB := w.2
  obtain rfl := Option.some.inj h
  exact ⟨hS, hB⟩
theorem oX16_word_L2 (fu : Nat) {out : Mm}   : ∀ (n : Nat) (a0 : Nat) (a1 : Int32) (a2 : Int32)  (M : Mm), Bd RM TM M → RM a0 → fX16_word_L2 fu  n a0 a1 a2 M = some out → Sm RM M out ∧ Bd RM TM out := by
  intro n
  induction n with
  | zero =>
    intro a0 a1 a2 M hB ra0 h
    have h : (none : Option (Mm)) = some out := h
    cases h
  | succ n ih =>
    intro a0 a1 a2 M hB ra0 h
    rw [fX16_word_L2] at h
    have hS : Sm RM M M := Sm.rf
    by_cases hc : (4 : Int32) ≤ a2
    · have h := (if_pos hc).symm.trans h
      obtain rfl := Option.some.inj h
      exact ⟨hS, hB⟩
    · have h := (if_neg hc).symm.trans h
      obtain ⟨v1, ev1, h⟩ := bd h
      have iv1 := gR_in hB (show 12 ≤ 16 ∧ 16 ≤ 16 from by decide) ev1
      obtain ⟨v2, ev2, h⟩ := bd h
      obtain ⟨M3, eM3, h⟩ := bd h
      have w := pA_ownB hB iv1 eM3
      have hS := hS.tr w.1
      have hB := w.2
      obtain ⟨v4, ev4, h⟩ := bd h
      obtain ⟨M5, eM5, h⟩ := bd h
      have w := pF_own hB (show 12 ≤ 16 ∧ 16 ≤ 16 from by decide) eM5
      have hS := hS.tr w.1
      have hB := w.2
      have z := ih a0 a1 (a2 + (1 : Int32)) M5 hB ra0 h
      exact ⟨hS.tr z.1, z.2⟩
theorem oX16_word (fu : Nat)   (a0 : Nat) (a1 : Int32)  (M : Mm) {out : Mm} (hB : Bd RM TM M) (ra0 : RM a0) (h : fX16_word fu  a0 a1 M = some out) : Sm RM M out ∧ Bd RM TM out := by
  unfold fX16_word at h
  have hS : Sm RM M M := Sm.rf
  have z := oX16_word_L2 fu   fu a0 a1 (0 : Int32) M hB ra0 h
  exact ⟨hS.tr z.1, z.2⟩
theorem oX16_feed (fu : Nat)   (a0 : Nat) (a1 : Int32) (a2 : Int32) (a3 : Int32) (a4 : Int32) (a5 : Int32)  (M : Mm) {out : Int32 × Mm} (hB : Bd RM TM M) (ra0 : RM a0) (h : fX16_feed fu  a0 a1 a2 a3 a4 a5 M = some out) : Sm RM M out.2 ∧ Bd RM TM out.2 := by
  unfold fX16_feed at h
  have hS : Sm RM M M := Sm.rf
  obtain ⟨v1, ev1, h⟩ := bd h
  by_cases hc : (v1 + (20 : Int32)) ≤ (65540 : Int32)
  · have h := (if_pos hc).symm.trans h
    obtain ⟨q2, eq2, h⟩ := bd h
    have rq2 := rc_in hB (show 12 ≤ 16 ∧ 16 ≤ 16 from by decide) eq2
    obtain ⟨M3, eM3, h⟩ := bd h
    have w := oX16_word fu q2 a1 M hB rq2 eM3
    have hS := hS.tr w.1
    have hB := w.2
    obtain ⟨q4, eq4, h⟩ := bd h
    have rq4 := rc_in hB (show 12 ≤ 16 ∧ 16 ≤ 16 from by decide) eq4
    obtain ⟨M5, eM5, h⟩ := bd h
    have w := oX16_word fu q4 a2 M3 hB rq4 eM5
    have hS := hS.tr w.1
    have hB := w.2
    obtain ⟨q6, eq6, h⟩ := bd h
    have rq6 := rc_in hB (show 12 ≤ 16 ∧ 16 ≤ 16 from by decide) eq6
    obtain ⟨M7, eM7, h⟩ := bd h
    have w := oX16_word fu q6 a3 M5 hB rq6 eM7
    have hS := hS.tr w.1
    have hB := w.2
    obtain ⟨q8, eq8, h⟩ := bd h
    have rq8 := rc_in hB (show 12 ≤ 16 ∧ 16 ≤ 16 from by decide) eq8
    obtain ⟨M9, eM9, h⟩ := bd h
    have w := oX16_word fu q8 a4 M7 hB rq8 eM9
    have hS := hS.tr w.1
    have hB := w.2
    obtain ⟨q10, eq10, h⟩ := bd h
    have rq10 := rc_in hB (show 12 ≤ 16 ∧ 16 ≤ 16 from by decide) eq10
    obtain ⟨M11, eM11, h⟩ := bd h
    have w := oX16_word fu q10 a5 M9 hB rq10 eM11
    have hS := hS.tr w.1
    have hB := w.2
    obtain ⟨v12, ev12, h⟩ := bd h
    obtain rfl := Option.some.inj h
    exact ⟨hS, hB⟩
  · have h := (if_neg hc).symm.trans h
    obtain rfl := Option.some.inj h
    exact ⟨hS, hB⟩
theorem oX16_end (fu : Nat)   (a0 : Nat) (a1 : Int32)  (M : Mm) {out : Int32 × Mm} (hB : Bd RM TM M) (ra0 : RM a0) (h : fX16_end fu  a0 a1 M = some out) : Sm RM M out.2 ∧ Bd RM TM out.2 := by
  unfold fX16_end at h
  have hS : Sm RM M M := Sm.rf
  by_cases hc : a1 < 0
  · have h := (if_pos hc).symm.trans h
    obtain rfl := Option.some.inj h
    exact ⟨hS, hB⟩
  · have h := (if_neg hc).symm.trans h
    obtain ⟨v1, ev1, h⟩ := bd h
    by_cases hc : a1 ≤ v1
    · have h := (if_pos hc).symm.trans h
      obtain ⟨M2, eM2, h⟩ := bd h
      have w := pF_own hB (show 12 ≤ 16 ∧ 16 ≤ 16 from by decide) eM2
      have hS := hS.tr w.1
      have hB := w.2
      obtain rfl := Option.some.inj h
      exact ⟨hS, hB⟩
    · have h := (if_neg hc).symm.trans h
      obtain rfl := Option.some.inj h
      exact ⟨hS, hB⟩
theorem oX16_install_L13 (fu : Nat) {out : Int32 × Mm}   : ∀ (n : Nat) (a0 : Nat) (a1 : Int32)  (M : Mm), Bd RM TM M → RM a0 → fX16_install_L13 fu  n a0 a1 M = some out → Sm RM M out.2 ∧ Bd RM TM out.2 := by
  intro n
  induction n with
  | zero =>
    intro a0 a1 M hB ra0 h
    have h : (none : Option (Int32 × Mm)) = some out := h
    cases h
  | succ n ih =>
    intro a0 a1 M hB ra0 h
    rw [fX16_install_L13] at h
    have hS : Sm RM M M := Sm.rf
    obtain ⟨v1, ev1, h⟩ := bd h
    by_cases hc : v1 ≤ a1
    · have h := (if_pos hc).symm.trans h
      obtain ⟨v2, ev2, h⟩ := bd h
      obtain ⟨M3, eM3, h⟩ := bd h
      have w := pF_own hB (show 12 ≤ 16 ∧ 16 ≤ 16 from by decide) eM3
      have hS := hS.tr w.1
      have hB := w.2
      obtain ⟨M4, eM4, h⟩ := bd h
      have w := pF_own hB (show 12 ≤ 16 ∧ 16 ≤ 16 from by decide) eM4
      have hS := hS.tr w.1
      have hB := w.2
      obtain ⟨M5, eM5, h⟩ := bd h
      have w := pZ_own hB (show 12 ≤ 16 ∧ 16 ≤ 16 from by decide) eM5
      have hS := hS.tr w.1
      have hB := w.2
      obtain ⟨v6, ev6, h⟩ := bd h
      obtain rfl := Option.some.inj h
      exact ⟨hS, hB⟩
    · have h := (if_neg hc).symm.trans h
      obtain ⟨v7, ev7, h⟩ := bd h
      have iv7 := gR_in hB (show 12 ≤ 16 ∧ 16 ≤ 16 from by decide) ev7
      obtain ⟨v8, ev8, h⟩ := bd h
      have iv8 := gR_in hB (show 12 ≤ 16 ∧ 16 ≤ 16 from by decide) ev8
      obtain ⟨v9, ev9, h⟩ := bd h
      obtain ⟨M10, eM10, h⟩ := bd h
      have w := pA_ownB hB iv7 eM10
      have hS := hS.tr w.1
      have hB := w.2
      have z := ih a0 (a1 + (1 : Int32)) M10 hB ra0 h
      exact ⟨hS.tr z.1, z.2⟩
theorem oX16_install (fu : Nat)   (a0 : Nat)  (M : Mm) {out : Int32 × Mm} (hB : Bd RM TM M) (ra0 : RM a0) (h : fX16_install fu  a0 M = some out) : Sm RM M out.2 ∧ Bd RM TM out.2 := by
  unfold fX16_install at h
  have hS : Sm RM M M := Sm.rf
  obtain ⟨v1, ev1, h⟩ := bd h
  by_cases hc : v1 ≤ (65535 : Int32)
  · have h := (if_pos hc).symm.trans h
    have z := oX16_install_L13 fu   fu a0 (0 : Int32) M hB ra0 h
    exact ⟨hS.tr z.1, z.2⟩
  · have h := (if_neg hc).symm.trans h
    obtain rfl := Option.some.inj h
    exact ⟨hS, hB⟩
theorem oX16_imageWord_L5 (fu : Nat) {out : Int64 × Mm}   : ∀ (n : Nat) (a0 : Nat) (a1 : Int32) (a2 : Int64) (a4 : Int32)  (M : Mm), Bd RM TM M → RM a0 → fX16_imageWord_L5 fu  n a0 a1 a2 a4 M = some out → Sm RM M out.2 ∧ Bd RM TM out.2 := by
  intro n
  induction n with
  | zero =>
    intro a0 a1 a2 a4 M hB ra0 h
    have h : (none : Option (Int64 × Mm)) = some out := h
    cases h
  | succ n ih =>
    intro a0 a1 a2 a4 M hB ra0 h
    rw [fX16_imageWord_L5] at h
    have hS : Sm RM M M := Sm.rf
    by_cases hc : (4 : Int32) ≤ a4
    · have h := (if_pos hc).symm.trans h
      obtain rfl := Option.some.inj h
      exact ⟨hS, hB⟩
    · have h := (if_neg hc).symm.trans h
      obtain ⟨v1, ev1, h⟩ := bd h
      have iv1 := gR_in hB (show 12 ≤ 16 ∧ 16 ≤ 16 from by decide) ev1
      obtain ⟨v2, ev2, h⟩ := bd h
      obtain ⟨v3, ev3, h⟩ := bd h
      have z := ih a0 a1 v3 (a4 + (1 : Int32)) M hB ra0 h
      exact ⟨hS.tr z.1, z.2⟩
theorem oX16_imageWord (fu : Nat)   (a0 : Nat) (a1 : Int32)  (M : Mm) {out : Int64 × Mm} (hB : Bd RM TM M) (ra0 : RM a0) (h : fX16_imageWord fu  a0 a1 M = some out) : Sm RM M out.2 ∧ Bd RM TM out.2 := by
  unfold fX16_imageWord at h
  have hS : Sm RM M M := Sm.rf
  have z := oX16_imageWord_L5 fu   fu a0 a1 (0 : Int64) (0 : Int32) M hB ra0 h
  exact ⟨hS.tr z.1, z.2⟩
theorem oX16_check_L54 (fu : Nat) {out : Int32 × Mm} (k5 : Nat → Int32 → Int32 → Int32 → Mm → Option (Int32 × Mm)) (k28 : Nat → Int32 → Int32 → Int32 → Int32 → Mm → Option (Int32 × Mm)) (hk5 : ∀ (b0 : Nat) (b2 : Int32) (b3 : Int32) (b4 : Int32)  (M : Mm), Bd RM TM M → RM b0 → k5 b0 b2 b3 b4 M = some out → Sm RM M out.2 ∧ Bd RM TM out.2) (hk28 : ∀ (b0 : Nat) (b2 : Int32) (b3 : Int32) (b4 : Int32) (b5 : Int32)  (M : Mm), Bd RM TM M → RM b0 → k28 b0 b2 b3 b4 b5 M = some out → Sm RM M out.2 ∧ Bd RM TM out.2) (a0 : Nat) (a2 : Int32) (a4 : Int32) (a5 : Int32) (s0 : Int32) (M : Mm) (hB : Bd RM TM M) (ra0 : RM a0) (h : fX16_check_L54 fu k5 k28 a0 a2 a4 a5 s0 M = some out) : Sm RM M out.2 ∧ Bd RM TM out.2 := by
  unfold fX16_check_L54 at h
  have hS : Sm RM M M := Sm.rf
  have z := hk28 a0 a2 s0 a4 (a5 + (1 : Int32)) M hB ra0 h
  exact ⟨hS.tr z.1, z.2⟩
theorem oX16_check_L28 (fu : Nat) {out : Int32 × Mm} (k5 : Nat → Int32 → Int32 → Int32 → Mm → Option (Int32 × Mm)) (hk5 : ∀ (b0 : Nat) (b2 : Int32) (b3 : Int32) (b4 : Int32)  (M : Mm), Bd RM TM M → RM b0 → k5 b0 b2 b3 b4 M = some out → Sm RM M out.2 ∧ Bd RM TM out.2) : ∀ (n : Nat) (a0 : Nat) (a2 : Int32) (a3 : Int32) (a4 : Int32) (a5 : Int32)  (M : Mm), Bd RM TM M → RM a0 → fX16_check_L28 fu k5 n a0 a2 a3 a4 a5 M = some out → Sm RM M out.2 ∧ Bd RM TM out.2 := by
  intro n
  induction n with
  | zero =>
    intro a0 a2 a3 a4 a5 M hB ra0 h
    have h : (none : Option (Int32 × Mm)) = some out := h
    cases h
  | succ n ih =>
    intro a0 a2 a3 a4 a5 M hB ra0 h
    rw [fX16_check_L28] at h
    have hS : Sm RM M M := Sm.rf
    by_cases hc : (8 : Int32) ≤ a5
    · have h := (if_pos hc).symm.trans h
      have z := hk5 a0 a2 a3 (a4 + (1 : Int32)) M hB ra0 h
      exact ⟨hS.tr z.1, z.2⟩
    · have h := (if_neg hc).symm.trans h
      by_cases hc : (a3 &&& (1 : Int32)) = (1 : Int32)
      · have h := (if_pos hc).symm.trans h
        have z := oX16_check_L54 fu k5 (fun b0 b2 b3 b4 b5 M => fX16_check_L28 fu k5 n b0 b2 b3 b4 b5 M) hk5 ih a0 a2 a4 a5 ((ushr a3 (1 : Int32)) ^^^ (-306674912 : Int32)) M hB ra0 h
        exact ⟨hS.tr z.1, z.2⟩
      · have h := (if_neg hc).symm.trans h
        have z := oX16_check_L54 fu k5 (fun b0 b2 b3 b4 b5 M => fX16_check_L28 fu k5 n b0 b2 b3 b4 b5 M) hk5 ih a0 a2 a4 a5 (ushr a3 (1 : Int32)) M hB ra0 h
        exact ⟨hS.tr z.1, z.2⟩
theorem oX16_check_L5 (fu : Nat) {out : Int32 × Mm}   : ∀ (n : Nat) (a0 : Nat) (a2 : Int32) (a3 : Int32) (a4 : Int32)  (M : Mm), Bd RM TM M → RM a0 → fX16_check_L5 fu  n a0 a2 a3 a4 M = some out → Sm RM M out.2 ∧ Bd RM TM out.2 := by
  intro n
  induction n with
  | zero =>
    intro a0 a2 a3 a4 M hB ra0 h
    have h : (none : Option (Int32 × Mm)) = some out := h
    cases h
  | succ n ih =>
    intro a0 a2 a3 a4 M hB ra0 h
    rw [fX16_check_L5] at h
    have hS : Sm RM M M := Sm.rf
    by_cases hc : a2 ≤ a4
    · have h := (if_pos hc).symm.trans h
      obtain rfl := Option.some.inj h
      exact ⟨hS, hB⟩
    · have h := (if_neg hc).symm.trans h
      obtain ⟨v1, ev1, h⟩ := bd h
      have iv1 := gR_in hB (show 12 ≤ 16 ∧ 16 ≤ 16 from by decide) ev1
      obtain ⟨v2, ev2, h⟩ := bd h
      have z := oX16_check_L28 fu (fun b0 b2 b3 b4 M => fX16_check_L5 fu  n b0 b2 b3 b4 M) ih fu a0 a2 (a3 ^^^ (v2 &&& (255 : Int32))) a4 (0 : Int32) M hB ra0 h
      exact ⟨hS.tr z.1, z.2⟩
theorem oX16_check (fu : Nat)   (a0 : Nat) (a1 : Int32) (a2 : Int32)  (M : Mm) {out : Int32 × Mm} (hB : Bd RM TM M) (ra0 : RM a0) (h : fX16_check fu  a0 a1 a2 M = some out) : Sm RM M out.2 ∧ Bd RM TM out.2 := by
  unfold fX16_check at h
  have hS : Sm RM M M := Sm.rf
  have z := oX16_check_L5 fu   fu a0 a2 (-1 : Int32) a1 M hB ra0 h
  exact ⟨hS.tr z.1, z.2⟩
