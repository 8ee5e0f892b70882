/-! ===== what no function but alone changes, printed by a program of ours ===== -/
theorem zX16_hexDigit (fu : Nat)   (a0 : Int32) (a1 : Int32)  (M : Mm) {out : Int32 × Mm} (hB : RW M)  (h : fX16_hexDigit fu  a0 a1 M = some out) : Zq M out.2 ∧ RW out.2 := by
  unfold fX16_hexDigit at h
  have hS : Zq M M := Zq.rf
  obtain ⟨v1, ev1, h⟩ := bd h
  by_cases hc : (10 : Int32) ≤ v1
  · have h := (if_pos hc).symm.trans h
    obtain rfl := Option.some.inj h
    exact ⟨hS, hB⟩
  · have h := (if_neg hc).symm.trans h
    obtain rfl := Option.some.inj h
    exact ⟨hS, hB⟩
theorem zX16_fits_L68 (fu : Nat) {out : Int32 × Mm}   : ∀ (n : Nat) (a0 : Nat) (a1 : Int32) (a2 : Int32)  (M : Mm), RW M → a0 = 323 → fX16_fits_L68 fu  n a0 a1 a2 M = some out → Zq M out.2 ∧ RW out.2 := by
  intro n
  induction n with
  | zero =>
    intro a0 a1 a2 M hB ra0 h
    have h : (none : Option (Int32 × Mm)) = some out := h
    cases h
  | succ n ih =>
    intro a0 a1 a2 M hB ra0 h
    rw [fX16_fits_L68] at h
    have hS : Zq M M := Zq.rf
    by_cases hc : (8 : Int32) ≤ a2
    · have h := (if_pos hc).symm.trans h
      obtain ⟨hz, rfl⟩ := rN_some h
      exact ⟨hS, hB⟩
    · have h := (if_neg hc).symm.trans h
      obtain ⟨v1, ev1, h⟩ := bd h
      obtain ⟨q2, eq2, h⟩ := bd h
      have rq2 := z_rc (z_some ra0) eq2
      obtain ⟨v4, M3, eM3, h⟩ := b2d h
      have w := zX16_headAt fu q2 ((v1 + (1 : Int32)) + a2) M hB rq2 eM3
      have hS := hS.tr w.1
      have hB := w.2
      obtain ⟨v5, ev5, h⟩ := bd h
      obtain ⟨v6, ev6, h⟩ := bd h
      obtain ⟨v8, M7, eM7, h⟩ := b2d h
      have w := zX16_hexDigit fu  v6 a2 M3 hB  eM7
      have hS := hS.tr w.1
      have hB := w.2
      by_cases hc : v4 = v8
      · have h := (if_pos hc).symm.trans h
        have z := ih a0 a1 (a2 + (1 : Int32)) M7 hB ra0 h
        exact ⟨hS.tr z.1, z.2⟩
      · have h := (if_neg hc).symm.trans h
        obtain ⟨hz, rfl⟩ := rN_some h
        exact ⟨hS, hB⟩
theorem zX16_fits (fu : Nat)   (a0 : Nat) (a1 : Int32)  (M : Mm) {out : Int32 × Mm} (hB : RW M) (ra0 : a0 = 323) (h : fX16_fits fu  a0 a1 M = some out) : Zq M out.2 ∧ RW out.2 := by
  unfold fX16_fits at h
  have hS : Zq M M := Zq.rf
  obtain ⟨v1, ev1, h⟩ := bd h
  obtain ⟨v2, ev2, h⟩ := bd h
  obtain ⟨q3, eq3, h⟩ := bd h
  have rq3 := z_rc (z_some ra0) eq3
  obtain ⟨v5, M4, eM4, h⟩ := b2d h
  have w := zX16_says fu q3 v1 v2 (some 13) M hB rq3 eM4
  have hS := hS.tr w.1
  have hB := w.2
  by_cases hc : v5 = 0
  · have h := (if_pos hc).symm.trans h
    obtain ⟨v6, ev6, h⟩ := bd h
    obtain ⟨v7, ev7, h⟩ := bd h
    by_cases hc : (v6 - v7) = (10 : Int32)
    · have h := (if_pos hc).symm.trans h
      obtain ⟨v8, ev8, h⟩ := bd h
      obtain ⟨v9, ev9, h⟩ := bd h
      obtain ⟨v10, ev10, h⟩ := bd h
      by_cases hc : v10 = (34 : Int32)
      · have h := (if_pos hc).symm.trans h
        obtain ⟨v11, ev11, h⟩ := bd h
        obtain ⟨v12, ev12, h⟩ := bd h
        obtain ⟨v13, ev13, h⟩ := bd h
        by_cases hc : v13 = (34 : Int32)
        · have h := (if_pos hc).symm.trans h
          have z := zX16_fits_L68 fu   fu a0 a1 (0 : Int32) M4 hB ra0 h
          exact ⟨hS.tr z.1, z.2⟩
        · have h := (if_neg hc).symm.trans h
          obtain ⟨hz, rfl⟩ := rN_some h
          exact ⟨hS, hB⟩
      · have h := (if_neg hc).symm.trans h
        obtain ⟨hz, rfl⟩ := rN_some h
        exact ⟨hS, hB⟩
    · have h := (if_neg hc).symm.trans h
      obtain ⟨hz, rfl⟩ := rN_some h
      exact ⟨hS, hB⟩
  · have h := (if_neg hc).symm.trans h
    obtain ⟨hz, rfl⟩ := rN_some h
    exact ⟨hS, hB⟩
theorem zX16_chosen_L221 (fu : Nat)   (a0 : Nat) (a1 : Int32)  (M : Mm) {out : Int32 × Mm} (hB : RW M) (ra0 : a0 = 323) (h : fX16_chosen_L221 fu  a0 a1 M = some out) : Zq M out.2 ∧ RW out.2 := by
  unfold fX16_chosen_L221 at h
  have hS : Zq M M := Zq.rf
  obtain ⟨v1, ev1, h⟩ := bd h
  by_cases hc : v1 = (200 : Int32)
  · have h := (if_pos hc).symm.trans h
    obtain rfl := Option.some.inj h
    exact ⟨hS, hB⟩
  · have h := (if_neg hc).symm.trans h
    obtain ⟨v2, ev2, h⟩ := bd h
    by_cases hc : v2 = (304 : Int32)
    · have h := (if_pos hc).symm.trans h
      obtain rfl := Option.some.inj h
      exact ⟨hS, hB⟩
    · have h := (if_neg hc).symm.trans h
      obtain rfl := Option.some.inj h
      exact ⟨hS, hB⟩
theorem zX16_chosen_L218 (fu : Nat)   (a0 : Nat) (a1 : Int32) (s0 : Option Nat) (s1 : Int32) (M : Mm) {out : Int32 × Mm} (hB : RW M) (ra0 : a0 = 323) (is0 : s0 = some 323) (h : fX16_chosen_L218 fu  a0 a1 s0 s1 M = some out) : Zq M out.2 ∧ RW out.2 := by
  unfold fX16_chosen_L218 at h
  have hS : Zq M M := Zq.rf
  obtain ⟨M1, eM1, h⟩ := bd h
  have w := z_pF hB eM1 (by decide)
  have hS := hS.tr w.1
  have hB := w.2
  have z := zX16_chosen_L221 fu   a0 a1 M1 hB ra0 h
  exact ⟨hS.tr z.1, z.2⟩
theorem zX16_chosen_L215 (fu : Nat)   (a0 : Nat) (a1 : Int32) (s0 : Option Nat) (M : Mm) {out : Int32 × Mm} (hB : RW M) (ra0 : a0 = 323) (is0 : s0 = some 323) (h : fX16_chosen_L215 fu  a0 a1 s0 M = some out) : Zq M out.2 ∧ RW out.2 := by
  unfold fX16_chosen_L215 at h
  have hS : Zq M M := Zq.rf
  have z := zX16_chosen_L218 fu   a0 a1 s0 (200 : Int32) M hB ra0 is0 h
  exact ⟨hS.tr z.1, z.2⟩
theorem zX16_chosen_L122 (fu : Nat)   (a0 : Nat)  (M : Mm) {out : Int32 × Mm} (hB : RW M) (ra0 : a0 = 323) (h : fX16_chosen_L122 fu  a0 M = some out) : Zq M out.2 ∧ RW out.2 := by
  unfold fX16_chosen_L122 at h
  have hS : Zq M M := Zq.rf
  obtain ⟨v1, ev1, h⟩ := bd h
  by_cases hc : v1 = 0
  · have h := (if_pos hc).symm.trans h
    obtain ⟨q2, eq2, h⟩ := bd h
    have rq2 := z_rc (z_some ra0) eq2
    obtain ⟨v4, M3, eM3, h⟩ := b2d h
    have w := zX16_found fu q2  M hB rq2 eM3
    have hS := hS.tr w.1
    have hB := w.2
    by_cases hc : 0 ≤ v4
    · have h := (if_pos hc).symm.trans h
      obtain ⟨v5, ev5, h⟩ := bd h
      obtain ⟨v6, ev6, h⟩ := bd h
      obtain ⟨v7, ev7, h⟩ := bd h
      obtain ⟨v8, ev8, h⟩ := bd h
      obtain ⟨v9, ev9, h⟩ := bd h
      obtain ⟨v10, ev10, h⟩ := bd h
      obtain ⟨q11, eq11, h⟩ := bd h
      have rq11 := z_rc (z_some ra0) eq11
      obtain ⟨v13, M12, eM12, h⟩ := b2d h
      have w := zX16_check fu q11 v6 (v8 + v10) M3 hB rq11 eM12
      have hS := hS.tr w.1
      have hB := w.2
      obtain ⟨v14, ev14, h⟩ := bd h
      obtain ⟨v15, ev15, h⟩ := bd h
      by_cases hc : v13 = v15
      · have h := (if_pos hc).symm.trans h
        obtain ⟨v16, ev16, h⟩ := bd h
        by_cases hc : v16 = (1 : Int32)
        · have h := (if_pos hc).symm.trans h
          obtain ⟨q17, eq17, h⟩ := bd h
          have rq17 := z_rc (z_some ra0) eq17
          obtain ⟨v19, M18, eM18, h⟩ := b2d h
          have w := zX16_fits fu q17 v4 M12 hB rq17 eM18
          have hS := hS.tr w.1
          have hB := w.2
          by_cases hc : v19 = 0
          · have h := (if_pos hc).symm.trans h
            have z := zX16_chosen_L215 fu   a0 v4 (some a0) M18 hB ra0 (z_some ra0) h
            exact ⟨hS.tr z.1, z.2⟩
          · have h := (if_neg hc).symm.trans h
            have z := zX16_chosen_L218 fu   a0 v4 (some a0) (304 : Int32) M18 hB ra0 (z_some ra0) h
            exact ⟨hS.tr z.1, z.2⟩
        · have h := (if_neg hc).symm.trans h
          have z := zX16_chosen_L215 fu   a0 v4 (some a0) M12 hB ra0 (z_some ra0) h
          exact ⟨hS.tr z.1, z.2⟩
      · have h := (if_neg hc).symm.trans h
        obtain ⟨M20, eM20, h⟩ := bd h
        have w := z_pF hB eM20 (by decide)
        have hS := hS.tr w.1
        have hB := w.2
        have z := zX16_chosen_L221 fu   a0 v4 M20 hB ra0 h
        exact ⟨hS.tr z.1, z.2⟩
    · have h := (if_neg hc).symm.trans h
      obtain ⟨M21, eM21, h⟩ := bd h
      have w := z_pF hB eM21 (by decide)
      have hS := hS.tr w.1
      have hB := w.2
      have z := zX16_chosen_L221 fu   a0 v4 M21 hB ra0 h
      exact ⟨hS.tr z.1, z.2⟩
  · have h := (if_neg hc).symm.trans h
    obtain rfl := Option.some.inj h
    exact ⟨hS, hB⟩
theorem zX16_chosen_L22 (fu : Nat)   (a0 : Nat)  (M : Mm) {out : Int32 × Mm} (hB : RW M) (ra0 : a0 = 323) (h : fX16_chosen_L22 fu  a0 M = some out) : Zq M out.2 ∧ RW out.2 := by
  unfold fX16_chosen_L22 at h
  have hS : Zq M M := Zq.rf
  obtain ⟨M1, eM1, h⟩ := bd h
  have w := z_pF hB eM1 (by decide)
  have hS := hS.tr w.1
  have hB := w.2
  have z := zX16_chosen_L122 fu   a0 M1 hB ra0 h
  exact ⟨hS.tr z.1, z.2⟩
theorem zX16_chosen_L64 (fu : Nat)   (a0 : Nat)  (M : Mm) {out : Int32 × Mm} (hB : RW M) (ra0 : a0 = 323) (h : fX16_chosen_L64 fu  a0 M = some out) : Zq M out.2 ∧ RW out.2 := by
  unfold fX16_chosen_L64 at h
  have hS : Zq M M := Zq.rf
  obtain ⟨M1, eM1, h⟩ := bd h
  have w := z_pF hB eM1 (by decide)
  have hS := hS.tr w.1
  have hB := w.2
  have z := zX16_chosen_L122 fu   a0 M1 hB ra0 h
  exact ⟨hS.tr z.1, z.2⟩
theorem zX16_chosen_L32 (fu : Nat)   (a0 : Nat)  (M : Mm) {out : Int32 × Mm} (hB : RW M) (ra0 : a0 = 323) (h : fX16_chosen_L32 fu  a0 M = some out) : Zq M out.2 ∧ RW out.2 := by
  unfold fX16_chosen_L32 at h
  have hS : Zq M M := Zq.rf
  obtain ⟨v1, ev1, h⟩ := bd h
  by_cases hc : v1 = 0
  · have h := (if_pos hc).symm.trans h
    obtain ⟨v2, ev2, h⟩ := bd h
    by_cases hc : (1 : Int32) < v2
    · have h := (if_pos hc).symm.trans h
      have z := zX16_chosen_L64 fu   a0 M hB ra0 h
      exact ⟨hS.tr z.1, z.2⟩
    · have h := (if_neg hc).symm.trans h
      obtain ⟨v3, ev3, h⟩ := bd h
      by_cases hc : v3 = 0
      · have h := (if_pos hc).symm.trans h
        obtain ⟨v4, ev4, h⟩ := bd h
        by_cases hc : v4 = 0
        · have h := (if_pos hc).symm.trans h
          obtain ⟨v5, ev5, h⟩ := bd h
          by_cases hc : v5 = 0
          · have h := (if_pos hc).symm.trans h
            obtain ⟨q6, eq6, h⟩ := bd h
            have rq6 := z_rc (z_some ra0) eq6
            obtain ⟨v8, M7, eM7, h⟩ := b2d h
            have w := zX16_unfolded fu q6  M hB rq6 eM7
            have hS := hS.tr w.1
            have hB := w.2
            by_cases hc : v8 = 0
            · have h := (if_pos hc).symm.trans h
              obtain ⟨M9, eM9, h⟩ := bd h
              have w := z_pF hB eM9 (by decide)
              have hS := hS.tr w.1
              have hB := w.2
              have z := zX16_chosen_L122 fu   a0 M9 hB ra0 h
              exact ⟨hS.tr z.1, z.2⟩
            · have h := (if_neg hc).symm.trans h
              have z := zX16_chosen_L122 fu   a0 M7 hB ra0 h
              exact ⟨hS.tr z.1, z.2⟩
          · have h := (if_neg hc).symm.trans h
            obtain ⟨M10, eM10, h⟩ := bd h
            have w := z_pF hB eM10 (by decide)
            have hS := hS.tr w.1
            have hB := w.2
            have z := zX16_chosen_L122 fu   a0 M10 hB ra0 h
            exact ⟨hS.tr z.1, z.2⟩
        · have h := (if_neg hc).symm.trans h
          obtain ⟨M11, eM11, h⟩ := bd h
          have w := z_pF hB eM11 (by decide)
          have hS := hS.tr w.1
          have hB := w.2
          have z := zX16_chosen_L122 fu   a0 M11 hB ra0 h
          exact ⟨hS.tr z.1, z.2⟩
      · have h := (if_neg hc).symm.trans h
        have z := zX16_chosen_L64 fu   a0 M hB ra0 h
        exact ⟨hS.tr z.1, z.2⟩
  · have h := (if_neg hc).symm.trans h
    obtain ⟨M12, eM12, h⟩ := bd h
    have w := z_pF hB eM12 (by decide)
    have hS := hS.tr w.1
    have hB := w.2
    have z := zX16_chosen_L122 fu   a0 M12 hB ra0 h
    exact ⟨hS.tr z.1, z.2⟩
theorem zX16_chosen (fu : Nat)   (a0 : Nat)  (M : Mm) {out : Int32 × Mm} (hB : RW M) (ra0 : a0 = 323) (h : fX16_chosen fu  a0 M = some out) : Zq M out.2 ∧ RW out.2 := by
  unfold fX16_chosen at h
  have hS : Zq M M := Zq.rf
  obtain ⟨v1, ev1, h⟩ := bd h
  by_cases hc : (1 : Int32) < v1
  · have h := (if_pos hc).symm.trans h
    have z := zX16_chosen_L22 fu   a0 M hB ra0 h
    exact ⟨hS.tr z.1, z.2⟩
  · have h := (if_neg hc).symm.trans h
    obtain ⟨v2, ev2, h⟩ := bd h
    by_cases hc : v2 = 0
    · have h := (if_pos hc).symm.trans h
      obtain ⟨v3, ev3, h⟩ := bd h
      by_cases hc : v3 = 0
      · have h := (if_pos hc).symm.trans h
        have z := zX16_chosen_L22 fu   a0 M hB ra0 h
        exact ⟨hS.tr z.1, z.2⟩
      · have h := (if_neg hc).symm.trans h
        have z := zX16_chosen_L32 fu   a0 M hB ra0 h
        exact ⟨hS.tr z.1, z.2⟩
    · have h := (if_neg hc).symm.trans h
      have z := zX16_chosen_L32 fu   a0 M hB ra0 h
      exact ⟨hS.tr z.1, z.2⟩
theorem zX16_code (fu : Nat)   (a0 : Nat) (a1 : Option Nat) (a2 : Int32)  (M : Mm) {out : Mm} (hB : RW M) (ra0 : a0 = 323) (h : fX16_code fu  a0 a1 a2 M = some out) : Zq M out ∧ RW out := by
  unfold fX16_code at h
  have hS : Zq M M := Zq.rf
  obtain ⟨v1, ev1, h⟩ := bd h
  obtain ⟨v2, ev2, h⟩ := bd h
  obtain ⟨M3, eM3, h⟩ := bd h
  have w := z_pA hB (by decide) eM3
  have hS := hS.tr w.1
  have hB := w.2
  obtain ⟨v4, ev4, h⟩ := bd h
  obtain ⟨M5, eM5, h⟩ := bd h
  have w := z_pF hB eM5 (by decide)
  have hS := hS.tr w.1
  have hB := w.2
  obtain rfl := Option.some.inj h
  exact ⟨hS, hB⟩
theorem zX16_say_L2 (fu : Nat) {out : Mm}   : ∀ (n : Nat) (a0 : Nat) (a1 : Option Nat) (a2 : Option Nat) (a3 : Int32)  (M : Mm), RW M → a0 = 323 → fX16_say_L2 fu  n a0 a1 a2 a3 M = some out → Zq M out ∧ RW out := by
  intro n
  induction n with
  | zero =>
    intro a0 a1 a2 a3 M hB ra0 h
    have h : (none : Option (Mm)) = some out := h
    cases h
  | succ n ih =>
    intro a0 a1 a2 a3 M hB ra0 h
    rw [fX16_say_L2] at h
    have hS : Zq M M := Zq.rf
    obtain ⟨q1, eq1, h⟩ := bd h
    obtain ⟨v3, M2, eM2, h⟩ := b2d h
    have w := zJ0_length_8abf5 fu q1  M hB  eM2
    have hS := hS.tr w.1
    have hB := w.2
    by_cases hc : v3 ≤ a3
    · have h := (if_pos hc).symm.trans h
      obtain rfl := Option.some.inj h
      exact ⟨hS, hB⟩
    · have h := (if_neg hc).symm.trans h
      obtain ⟨q4, eq4, h⟩ := bd h
      obtain ⟨v6, M5, eM5, h⟩ := b2d h
      have w := zJ0_charAt_5068e fu q4 a3 M2 hB  eM5
      have hS := hS.tr w.1
      have hB := w.2
      obtain ⟨q7, eq7, h⟩ := bd h
      have rq7 := z_rc (z_some ra0) eq7
      obtain ⟨M8, eM8, h⟩ := bd h
      have w := zX16_code fu q7 a1 v6 M5 hB rq7 eM8
      have hS := hS.tr w.1
      have hB := w.2
      have z := ih a0 a1 a2 (a3 + (1 : Int32)) M8 hB ra0 h
      exact ⟨hS.tr z.1, z.2⟩
theorem zX16_say (fu : Nat)   (a0 : Nat) (a1 : Option Nat) (a2 : Option Nat)  (M : Mm) {out : Mm} (hB : RW M) (ra0 : a0 = 323) (h : fX16_say fu  a0 a1 a2 M = some out) : Zq M out ∧ RW out := by
  unfold fX16_say at h
  have hS : Zq M M := Zq.rf
  have z := zX16_say_L2 fu   fu a0 a1 a2 (0 : Int32) M hB ra0 h
  exact ⟨hS.tr z.1, z.2⟩
theorem zX16_sayNumber_L21 (fu : Nat) {out : Mm}   : ∀ (n : Nat) (a0 : Nat) (a1 : Option Nat) (a2 : Int32) (a4 : Int32)  (M : Mm), RW M → a0 = 323 → fX16_sayNumber_L21 fu  n a0 a1 a2 a4 M = some out → Zq M out ∧ RW out := by
  intro n
  induction n with
  | zero =>
    intro a0 a1 a2 a4 M hB ra0 h
    have h : (none : Option (Mm)) = some out := h
    cases h
  | succ n ih =>
    intro a0 a1 a2 a4 M hB ra0 h
    rw [fX16_sayNumber_L21] at h
    have hS : Zq M M := Zq.rf
    by_cases hc : a4 ≤ 0
    · have h := (if_pos hc).symm.trans h
      obtain rfl := Option.some.inj h
      exact ⟨hS, hB⟩
    · have h := (if_neg hc).symm.trans h
      by_cases hz : a4 = 0
      · rw [if_pos hz] at h; cases h
      have h := (if_neg hz).symm.trans h
      obtain ⟨q1, eq1, h⟩ := bd h
      have rq1 := z_rc (z_some ra0) eq1
      obtain ⟨M2, eM2, h⟩ := bd h
      have w := zX16_code fu q1 a1 ((48 : Int32) + (irm (a2 / a4) (10 : Int32))) M hB rq1 eM2
      have hS := hS.tr w.1
      have hB := w.2
      have z := ih a0 a1 a2 (a4 / (10 : Int32)) M2 hB ra0 h
      exact ⟨hS.tr z.1, z.2⟩
theorem zX16_sayNumber_L2 (fu : Nat) {out : Mm}   : ∀ (n : Nat) (a0 : Nat) (a1 : Option Nat) (a2 : Int32) (a3 : Int32)  (M : Mm), RW M → a0 = 323 → fX16_sayNumber_L2 fu  n a0 a1 a2 a3 M = some out → Zq M out ∧ RW out := by
  intro n
  induction n with
  | zero =>
    intro a0 a1 a2 a3 M hB ra0 h
    have h : (none : Option (Mm)) = some out := h
    cases h
  | succ n ih =>
    intro a0 a1 a2 a3 M hB ra0 h
    rw [fX16_sayNumber_L2] at h
    have hS : Zq M M := Zq.rf
    by_cases hz : a3 = 0
    · rw [if_pos hz] at h; cases h
    have h := (if_neg hz).symm.trans h
    by_cases hc : (a2 / a3) < (10 : Int32)
    · have h := (if_pos hc).symm.trans h
      have z := zX16_sayNumber_L21 fu   fu a0 a1 a2 a3 M hB ra0 h
      exact ⟨hS.tr z.1, z.2⟩
    · have h := (if_neg hc).symm.trans h
      have z := ih a0 a1 a2 (a3 * (10 : Int32)) M hB ra0 h
      exact ⟨hS.tr z.1, z.2⟩
theorem zX16_sayNumber (fu : Nat)   (a0 : Nat) (a1 : Option Nat) (a2 : Int32)  (M : Mm) {out : Mm} (hB : RW M) (ra0 : a0 = 323) (h : fX16_sayNumber fu  a0 a1 a2 M = some out) : Zq M out ∧ RW out := by
  unfold fX16_sayNumber at h
  have hS : Zq M M := Zq.rf
  have z := zX16_sayNumber_L2 fu   fu a0 a1 a2 (1 : Int32) M hB ra0 h
  exact ⟨hS.tr z.1, z.2⟩
theorem zX16_phrase (fu : Nat)   (a0 : Int32)  (M : Mm) {out : Option Nat × Mm} (hB : RW M)  (h : fX16_phrase fu  a0 M = some out) : Zq M out.2 ∧ RW out.2 := by
  unfold fX16_phrase at h
  have hS : Zq M M := Zq.rf
  by_cases hc0 : a0 = (200 : Int32)
  · have h := (if_pos hc0).symm.trans h
    obtain rfl := Option.some.inj h
    exact ⟨hS, hB⟩
  have h := (if_neg hc0).symm.trans h
  by_cases hc1 : a0 = (304 : Int32)
  · have h := (if_pos hc1).symm.trans h
    obtain rfl := Option.some.inj h
    exact ⟨hS, hB⟩
  have h := (if_neg hc1).symm.trans h
  by_cases hc2 : a0 = (400 : Int32)
  · have h := (if_pos hc2).symm.trans h
    obtain rfl := Option.some.inj h
    exact ⟨hS, hB⟩
  have h := (if_neg hc2).symm.trans h
  by_cases hc3 : a0 = (404 : Int32)
  · have h := (if_pos hc3).symm.trans h
    obtain rfl := Option.some.inj h
    exact ⟨hS, hB⟩
  have h := (if_neg hc3).symm.trans h
  by_cases hc4 : a0 = (405 : Int32)
  · have h := (if_pos hc4).symm.trans h
    obtain rfl := Option.some.inj h
    exact ⟨hS, hB⟩
  have h := (if_neg hc4).symm.trans h
  by_cases hc5 : a0 = (413 : Int32)
  · have h := (if_pos hc5).symm.trans h
    obtain rfl := Option.some.inj h
    exact ⟨hS, hB⟩
  have h := (if_neg hc5).symm.trans h
  by_cases hc6 : a0 = (431 : Int32)
  · have h := (if_pos hc6).symm.trans h
    obtain rfl := Option.some.inj h
    exact ⟨hS, hB⟩
  have h := (if_neg hc6).symm.trans h
  by_cases hc7 : a0 = (500 : Int32)
  · have h := (if_pos hc7).symm.trans h
    obtain rfl := Option.some.inj h
    exact ⟨hS, hB⟩
  have h := (if_neg hc7).symm.trans h
  obtain rfl := Option.some.inj h
  exact ⟨hS, hB⟩
theorem zX16_line (fu : Nat)   (a0 : Nat) (a1 : Option Nat)  (M : Mm) {out : Mm} (hB : RW M) (ra0 : a0 = 323) (h : fX16_line fu  a0 a1 M = some out) : Zq M out ∧ RW out := by
  unfold fX16_line at h
  have hS : Zq M M := Zq.rf
  obtain ⟨q1, eq1, h⟩ := bd h
  have rq1 := z_rc (z_some ra0) eq1
  obtain ⟨M2, eM2, h⟩ := bd h
  have w := zX16_code fu q1 a1 (13 : Int32) M hB rq1 eM2
  have hS := hS.tr w.1
  have hB := w.2
  obtain ⟨q3, eq3, h⟩ := bd h
  have rq3 := z_rc (z_some ra0) eq3
  obtain ⟨M4, eM4, h⟩ := bd h
  have w := zX16_code fu q3 a1 (10 : Int32) M2 hB rq3 eM4
  have hS := hS.tr w.1
  have hB := w.2
  obtain rfl := Option.some.inj h
  exact ⟨hS, hB⟩
theorem zX16_endsWith_L41 (fu : Nat) {out : Int32 × Mm}   : ∀ (n : Nat) (a0 : Nat) (a1 : Int32) (a2 : Option Nat) (a3 : Int32) (a4 : Int32)  (M : Mm), RW M → a0 = 323 → fX16_endsWith_L41 fu  n a0 a1 a2 a3 a4 M = some out → Zq M out.2 ∧ RW out.2 := by
  intro n
  induction n with
  | zero =>
    intro a0 a1 a2 a3 a4 M hB ra0 h
    have h : (none : Option (Int32 × Mm)) = some out := h
    cases h
  | succ n ih =>
    intro a0 a1 a2 a3 a4 M hB ra0 h
    rw [fX16_endsWith_L41] at h
    have hS : Zq M M := Zq.rf
    obtain ⟨q1, eq1, h⟩ := bd h
    obtain ⟨v3, M2, eM2, h⟩ := b2d h
    have w := zJ0_length_8abf5 fu q1  M hB  eM2
    have hS := hS.tr w.1
    have hB := w.2
    by_cases hc : v3 ≤ a4
    · have h := (if_pos hc).symm.trans h
      obtain ⟨hz, rfl⟩ := rN_some h
      exact ⟨hS, hB⟩
    · have h := (if_neg hc).symm.trans h
      obtain ⟨v4, ev4, h⟩ := bd h
      obtain ⟨q5, eq5, h⟩ := bd h
      obtain ⟨v7, M6, eM6, h⟩ := b2d h
      have w := zJ0_length_8abf5 fu q5  M2 hB  eM6
      have hS := hS.tr w.1
      have hB := w.2
      obtain ⟨v8, ev8, h⟩ := bd h
      obtain ⟨q9, eq9, h⟩ := bd h
      obtain ⟨v11, M10, eM10, h⟩ := b2d h
      have w := zJ0_charAt_5068e fu q9 a4 M6 hB  eM10
      have hS := hS.tr w.1
      have hB := w.2
      by_cases hc : v8 = v11
      · have h := (if_pos hc).symm.trans h
        have z := ih a0 a1 a2 a3 (a4 + (1 : Int32)) M10 hB ra0 h
        exact ⟨hS.tr z.1, z.2⟩
      · have h := (if_neg hc).symm.trans h
        obtain ⟨hz, rfl⟩ := rN_some h
        exact ⟨hS, hB⟩
theorem zX16_endsWith_L28 (fu : Nat)   (a0 : Nat) (a1 : Int32) (a2 : Option Nat) (a3 : Int32)  (M : Mm) {out : Int32 × Mm} (hB : RW M) (ra0 : a0 = 323) (h : fX16_endsWith_L28 fu  a0 a1 a2 a3 M = some out) : Zq M out.2 ∧ RW out.2 := by
  unfold fX16_endsWith_L28 at h
  have hS : Zq M M := Zq.rf
  obtain ⟨q1, eq1, h⟩ := bd h
  obtain ⟨v3, M2, eM2, h⟩ := b2d h
  have w := zJ0_length_8abf5 fu q1  M hB  eM2
  have hS := hS.tr w.1
  have hB := w.2
  by_cases hc : v3 ≤ a3
  · have h := (if_pos hc).symm.trans h
    have z := zX16_endsWith_L41 fu   fu a0 a1 a2 a3 (0 : Int32) M2 hB ra0 h
    exact ⟨hS.tr z.1, z.2⟩
  · have h := (if_neg hc).symm.trans h
    obtain ⟨hz, rfl⟩ := rN_some h
    exact ⟨hS, hB⟩
theorem zX16_endsWith_L2 (fu : Nat) {out : Int32 × Mm}   : ∀ (n : Nat) (a0 : Nat) (a1 : Int32) (a2 : Option Nat) (a3 : Int32)  (M : Mm), RW M → a0 = 323 → fX16_endsWith_L2 fu  n a0 a1 a2 a3 M = some out → Zq M out.2 ∧ RW out.2 := by
  intro n
  induction n with
  | zero =>
    intro a0 a1 a2 a3 M hB ra0 h
    have h : (none : Option (Int32 × Mm)) = some out := h
    cases h
  | succ n ih =>
    intro a0 a1 a2 a3 M hB ra0 h
    rw [fX16_endsWith_L2] at h
    have hS : Zq M M := Zq.rf
    by_cases hc : (48 : Int32) ≤ a3
    · have h := (if_pos hc).symm.trans h
      have z := zX16_endsWith_L28 fu   a0 a1 a2 a3 M hB ra0 h
      exact ⟨hS.tr z.1, z.2⟩
    · have h := (if_neg hc).symm.trans h
      obtain ⟨v1, ev1, h⟩ := bd h
      obtain ⟨v2, ev2, h⟩ := bd h
      by_cases hc : v2 = 0
      · have h := (if_pos hc).symm.trans h
        have z := zX16_endsWith_L28 fu   a0 a1 a2 a3 M hB ra0 h
        exact ⟨hS.tr z.1, z.2⟩
      · have h := (if_neg hc).symm.trans h
        have z := ih a0 a1 a2 (a3 + (1 : Int32)) M hB ra0 h
        exact ⟨hS.tr z.1, z.2⟩
theorem zX16_endsWith (fu : Nat)   (a0 : Nat) (a1 : Int32) (a2 : Option Nat)  (M : Mm) {out : Int32 × Mm} (hB : RW M) (ra0 : a0 = 323) (h : fX16_endsWith fu  a0 a1 a2 M = some out) : Zq M out.2 ∧ RW out.2 := by
  unfold fX16_endsWith at h
  have hS : Zq M M := Zq.rf
  have z := zX16_endsWith_L2 fu   fu a0 a1 a2 (0 : Int32) M hB ra0 h
  exact ⟨hS.tr z.1, z.2⟩
theorem zX16_type (fu : Nat)   (a0 : Nat) (a1 : Int32)  (M : Mm) {out : Option Nat × Mm} (hB : RW M) (ra0 : a0 = 323) (h : fX16_type fu  a0 a1 M = some out) : Zq M out.2 ∧ RW out.2 := by
  unfold fX16_type at h
  have hS : Zq M M := Zq.rf
  by_cases hc : a1 < 0
  · have h := (if_pos hc).symm.trans h
    obtain rfl := Option.some.inj h
    exact ⟨hS, hB⟩
  · have h := (if_neg hc).symm.trans h
    obtain ⟨q1, eq1, h⟩ := bd h
    have rq1 := z_rc (z_some ra0) eq1
    obtain ⟨v3, M2, eM2, h⟩ := b2d h
    have w := zX16_endsWith fu q1 a1 (some 33) M hB rq1 eM2
    have hS := hS.tr w.1
    have hB := w.2
    by_cases hc : v3 = 0
    · have h := (if_pos hc).symm.trans h
      obtain ⟨q4, eq4, h⟩ := bd h
      have rq4 := z_rc (z_some ra0) eq4
      obtain ⟨v6, M5, eM5, h⟩ := b2d h
      have w := zX16_endsWith fu q4 a1 (some 27) M2 hB rq4 eM5
      have hS := hS.tr w.1
      have hB := w.2
      by_cases hc : v6 = 0
      · have h := (if_pos hc).symm.trans h
        obtain ⟨q7, eq7, h⟩ := bd h
        have rq7 := z_rc (z_some ra0) eq7
        obtain ⟨v9, M8, eM8, h⟩ := b2d h
        have w := zX16_endsWith fu q7 a1 (some 29) M5 hB rq7 eM8
        have hS := hS.tr w.1
        have hB := w.2
        by_cases hc : v9 = 0
        · have h := (if_pos hc).symm.trans h
          obtain ⟨q10, eq10, h⟩ := bd h
          have rq10 := z_rc (z_some ra0) eq10
          obtain ⟨v12, M11, eM11, h⟩ := b2d h
          have w := zX16_endsWith fu q10 a1 (some 31) M8 hB rq10 eM11
          have hS := hS.tr w.1
          have hB := w.2
          by_cases hc : v12 = 0
          · have h := (if_pos hc).symm.trans h
            obtain ⟨q13, eq13, h⟩ := bd h
            have rq13 := z_rc (z_some ra0) eq13
            obtain ⟨v15, M14, eM14, h⟩ := b2d h
            have w := zX16_endsWith fu q13 a1 (some 35) M11 hB rq13 eM14
            have hS := hS.tr w.1
            have hB := w.2
            by_cases hc : v15 = 0
            · have h := (if_pos hc).symm.trans h
              obtain rfl := Option.some.inj h
              exact ⟨hS, hB⟩
            · have h := (if_neg hc).symm.trans h
              obtain rfl := Option.some.inj h
              exact ⟨hS, hB⟩
          · have h := (if_neg hc).symm.trans h
            obtain rfl := Option.some.inj h
            exact ⟨hS, hB⟩
        · have h := (if_neg hc).symm.trans h
          obtain rfl := Option.some.inj h
          exact ⟨hS, hB⟩
      · have h := (if_neg hc).symm.trans h
        obtain rfl := Option.some.inj h
        exact ⟨hS, hB⟩
    · have h := (if_neg hc).symm.trans h
      obtain rfl := Option.some.inj h
      exact ⟨hS, hB⟩
theorem zX16_make_L308 (fu : Nat)   (a0 : Nat) (a1 : Option Nat) (a2 : Int32) (a5 : Int32) (s0 : Option Nat) (s1 : Int32) (M : Mm) {out : Mm} (hB : RW M) (ra0 : a0 = 323) (h : fX16_make_L308 fu  a0 a1 a2 a5 s0 s1 M = some out) : Zq M out ∧ RW out := by
  unfold fX16_make_L308 at h
  have hS : Zq M M := Zq.rf
  obtain ⟨M1, eM1, h⟩ := bd h
  have w := z_pF hB eM1 (by decide)
  have hS := hS.tr w.1
  have hB := w.2
  by_cases hc : a5 = 0
  · have h := (if_pos hc).symm.trans h
    obtain rfl := Option.some.inj h
    exact ⟨hS, hB⟩
  · have h := (if_neg hc).symm.trans h
    by_cases hc : 0 ≤ a2
    · have h := (if_pos hc).symm.trans h
      obtain rfl := Option.some.inj h
      exact ⟨hS, hB⟩
    · have h := (if_neg hc).symm.trans h
      obtain ⟨v2, ev2, h⟩ := bd h
      obtain ⟨q3, eq3, h⟩ := bd h
      have rq3 := z_rc (z_some ra0) eq3
      obtain ⟨M4, eM4, h⟩ := bd h
      have w := zX16_sayNumber fu q3 a1 v2 M1 hB rq3 eM4
      have hS := hS.tr w.1
      have hB := w.2
      obtain ⟨q5, eq5, h⟩ := bd h
      have rq5 := z_rc (z_some ra0) eq5
      obtain ⟨M6, eM6, h⟩ := bd h
      have w := zX16_code fu q5 a1 (32 : Int32) M4 hB rq5 eM6
      have hS := hS.tr w.1
      have hB := w.2
      obtain ⟨v7, ev7, h⟩ := bd h
      obtain ⟨v9, M8, eM8, h⟩ := b2d h
      have w := zX16_phrase fu  v7 M6 hB  eM8
      have hS := hS.tr w.1
      have hB := w.2
      obtain ⟨q10, eq10, h⟩ := bd h
      have rq10 := z_rc (z_some ra0) eq10
      obtain ⟨M11, eM11, h⟩ := bd h
      have w := zX16_say fu q10 a1 v9 M8 hB rq10 eM11
      have hS := hS.tr w.1
      have hB := w.2
      obtain ⟨q12, eq12, h⟩ := bd h
      have rq12 := z_rc (z_some ra0) eq12
      obtain ⟨M13, eM13, h⟩ := bd h
      have w := zX16_code fu q12 a1 (10 : Int32) M11 hB rq12 eM13
      have hS := hS.tr w.1
      have hB := w.2
      obtain rfl := Option.some.inj h
      exact ⟨hS, hB⟩
theorem zX16_make_L307 (fu : Nat)   (a0 : Nat) (a1 : Option Nat) (a2 : Int32) (a5 : Int32) (s0 : Option Nat) (M : Mm) {out : Mm} (hB : RW M) (ra0 : a0 = 323) (h : fX16_make_L307 fu  a0 a1 a2 a5 s0 M = some out) : Zq M out ∧ RW out := by
  unfold fX16_make_L307 at h
  have hS : Zq M M := Zq.rf
  have z := zX16_make_L308 fu   a0 a1 a2 a5 s0 (0 : Int32) M hB ra0 h
  exact ⟨hS.tr z.1, z.2⟩
theorem zX16_make_L289 (fu : Nat)   (a0 : Nat) (a1 : Option Nat) (a2 : Int32) (a4 : Int32) (a5 : Int32) (s0 : Option Nat) (s1 : Int32) (M : Mm) {out : Mm} (hB : RW M) (ra0 : a0 = 323) (h : fX16_make_L289 fu  a0 a1 a2 a4 a5 s0 s1 M = some out) : Zq M out ∧ RW out := by
  unfold fX16_make_L289 at h
  have hS : Zq M M := Zq.rf
  obtain ⟨M1, eM1, h⟩ := bd h
  have w := z_pF hB eM1 (by decide)
  have hS := hS.tr w.1
  have hB := w.2
  by_cases hc : a5 = 0
  · have h := (if_pos hc).symm.trans h
    have z := zX16_make_L307 fu   a0 a1 a2 a5 a1 M1 hB ra0 h
    exact ⟨hS.tr z.1, z.2⟩
  · have h := (if_neg hc).symm.trans h
    by_cases hc : a2 < 0
    · have h := (if_pos hc).symm.trans h
      have z := zX16_make_L307 fu   a0 a1 a2 a5 a1 M1 hB ra0 h
      exact ⟨hS.tr z.1, z.2⟩
    · have h := (if_neg hc).symm.trans h
      have z := zX16_make_L308 fu   a0 a1 a2 a5 a1 a4 M1 hB ra0 h
      exact ⟨hS.tr z.1, z.2⟩
theorem zX16_make_L272 (fu : Nat)   (a0 : Nat) (a1 : Option Nat) (a2 : Int32) (a4 : Int32) (s0 : Int32) (M : Mm) {out : Mm} (hB : RW M) (ra0 : a0 = 323) (h : fX16_make_L272 fu  a0 a1 a2 a4 s0 M = some out) : Zq M out ∧ RW out := by
  unfold fX16_make_L272 at h
  have hS : Zq M M := Zq.rf
  by_cases hc : a2 < 0
  · have h := (if_pos hc).symm.trans h
    have z := zX16_make_L289 fu   a0 a1 a2 a4 s0 a1 (0 : Int32) M hB ra0 h
    exact ⟨hS.tr z.1, z.2⟩
  · have h := (if_neg hc).symm.trans h
    obtain ⟨v1, ev1, h⟩ := bd h
    obtain ⟨v2, ev2, h⟩ := bd h
    have z := zX16_make_L289 fu   a0 a1 a2 a4 s0 a1 v2 M hB ra0 h
    exact ⟨hS.tr z.1, z.2⟩
theorem zX16_make_L271 (fu : Nat)   (a0 : Nat) (a1 : Option Nat) (a2 : Int32) (a4 : Int32)  (M : Mm) {out : Mm} (hB : RW M) (ra0 : a0 = 323) (h : fX16_make_L271 fu  a0 a1 a2 a4 M = some out) : Zq M out ∧ RW out := by
  unfold fX16_make_L271 at h
  have hS : Zq M M := Zq.rf
  have z := zX16_make_L272 fu   a0 a1 a2 a4 (0 : Int32) M hB ra0 h
  exact ⟨hS.tr z.1, z.2⟩
theorem zX16_make_L245 (fu : Nat)   (a0 : Nat) (a1 : Option Nat) (a2 : Int32) (a4 : Int32)  (M : Mm) {out : Mm} (hB : RW M) (ra0 : a0 = 323) (h : fX16_make_L245 fu  a0 a1 a2 a4 M = some out) : Zq M out ∧ RW out := by
  unfold fX16_make_L245 at h
  have hS : Zq M M := Zq.rf
  obtain ⟨q1, eq1, h⟩ := bd h
  have rq1 := z_rc (z_some ra0) eq1
  obtain ⟨M2, eM2, h⟩ := bd h
  have w := zX16_line fu q1 a1 M hB rq1 eM2
  have hS := hS.tr w.1
  have hB := w.2
  obtain ⟨v3, ev3, h⟩ := bd h
  by_cases hc : v3 = 0
  · have h := (if_pos hc).symm.trans h
    obtain ⟨v4, ev4, h⟩ := bd h
    by_cases hc : v4 = (304 : Int32)
    · have h := (if_pos hc).symm.trans h
      have z := zX16_make_L271 fu   a0 a1 a2 a4 M2 hB ra0 h
      exact ⟨hS.tr z.1, z.2⟩
    · have h := (if_neg hc).symm.trans h
      have z := zX16_make_L272 fu   a0 a1 a2 a4 (1 : Int32) M2 hB ra0 h
      exact ⟨hS.tr z.1, z.2⟩
  · have h := (if_neg hc).symm.trans h
    have z := zX16_make_L271 fu   a0 a1 a2 a4 M2 hB ra0 h
    exact ⟨hS.tr z.1, z.2⟩
theorem zX16_make_L228 (fu : Nat)   (a0 : Nat) (a1 : Option Nat) (a2 : Int32) (a3 : Int32) (a4 : Int32)  (M : Mm) {out : Mm} (hB : RW M) (ra0 : a0 = 323) (h : fX16_make_L228 fu  a0 a1 a2 a3 a4 M = some out) : Zq M out ∧ RW out := by
  unfold fX16_make_L228 at h
  have hS : Zq M M := Zq.rf
  by_cases hc : a3 = 0
  · have h := (if_pos hc).symm.trans h
    have z := zX16_make_L245 fu   a0 a1 a2 a4 M hB ra0 h
    exact ⟨hS.tr z.1, z.2⟩
  · have h := (if_neg hc).symm.trans h
    obtain ⟨q1, eq1, h⟩ := bd h
    have rq1 := z_rc (z_some ra0) eq1
    obtain ⟨M2, eM2, h⟩ := bd h
    have w := zX16_say fu q1 a1 (some 49) M hB rq1 eM2
    have hS := hS.tr w.1
    have hB := w.2
    obtain ⟨q3, eq3, h⟩ := bd h
    have rq3 := z_rc (z_some ra0) eq3
    obtain ⟨M4, eM4, h⟩ := bd h
    have w := zX16_line fu q3 a1 M2 hB rq3 eM4
    have hS := hS.tr w.1
    have hB := w.2
    have z := zX16_make_L245 fu   a0 a1 a2 a4 M4 hB ra0 h
    exact ⟨hS.tr z.1, z.2⟩
theorem zX16_make_L205 (fu : Nat)   (a0 : Nat) (a1 : Option Nat) (a2 : Int32) (a3 : Int32) (a4 : Int32)  (M : Mm) {out : Mm} (hB : RW M) (ra0 : a0 = 323) (h : fX16_make_L205 fu  a0 a1 a2 a3 a4 M = some out) : Zq M out ∧ RW out := by
  unfold fX16_make_L205 at h
  have hS : Zq M M := Zq.rf
  obtain ⟨v1, ev1, h⟩ := bd h
  by_cases hc : v1 = (405 : Int32)
  · have h := (if_pos hc).symm.trans h
    obtain ⟨q2, eq2, h⟩ := bd h
    have rq2 := z_rc (z_some ra0) eq2
    obtain ⟨M3, eM3, h⟩ := bd h
    have w := zX16_say fu q2 a1 (some 48) M hB rq2 eM3
    have hS := hS.tr w.1
    have hB := w.2
    obtain ⟨q4, eq4, h⟩ := bd h
    have rq4 := z_rc (z_some ra0) eq4
    obtain ⟨M5, eM5, h⟩ := bd h
    have w := zX16_line fu q4 a1 M3 hB rq4 eM5
    have hS := hS.tr w.1
    have hB := w.2
    have z := zX16_make_L228 fu   a0 a1 a2 a3 a4 M5 hB ra0 h
    exact ⟨hS.tr z.1, z.2⟩
  · have h := (if_neg hc).symm.trans h
    have z := zX16_make_L228 fu   a0 a1 a2 a3 a4 M hB ra0 h
    exact ⟨hS.tr z.1, z.2⟩
theorem zX16_make_L164 (fu : Nat) {out : Mm}   : ∀ (n : Nat) (a0 : Nat) (a1 : Option Nat) (a2 : Int32) (a3 : Int32) (a4 : Int32) (a5 : Int32)  (M : Mm), RW M → a0 = 323 → fX16_make_L164 fu  n a0 a1 a2 a3 a4 a5 M = some out → Zq M out ∧ RW out := by
  intro n
  induction n with
  | zero =>
    intro a0 a1 a2 a3 a4 a5 M hB ra0 h
    have h : (none : Option (Mm)) = some out := h
    cases h
  | succ n ih =>
    intro a0 a1 a2 a3 a4 a5 M hB ra0 h
    rw [fX16_make_L164] at h
    have hS : Zq M M := Zq.rf
    by_cases hc : (8 : Int32) ≤ a5
    · have h := (if_pos hc).symm.trans h
      obtain ⟨q1, eq1, h⟩ := bd h
      have rq1 := z_rc (z_some ra0) eq1
      obtain ⟨M2, eM2, h⟩ := bd h
      have w := zX16_code fu q1 a1 (34 : Int32) M hB rq1 eM2
      have hS := hS.tr w.1
      have hB := w.2
      obtain ⟨q3, eq3, h⟩ := bd h
      have rq3 := z_rc (z_some ra0) eq3
      obtain ⟨M4, eM4, h⟩ := bd h
      have w := zX16_line fu q3 a1 M2 hB rq3 eM4
      have hS := hS.tr w.1
      have hB := w.2
      have z := zX16_make_L205 fu   a0 a1 a2 a3 a4 M4 hB ra0 h
      exact ⟨hS.tr z.1, z.2⟩
    · have h := (if_neg hc).symm.trans h
      obtain ⟨v5, ev5, h⟩ := bd h
      obtain ⟨v6, ev6, h⟩ := bd h
      obtain ⟨v8, M7, eM7, h⟩ := b2d h
      have w := zX16_hexDigit fu  v6 a5 M hB  eM7
      have hS := hS.tr w.1
      have hB := w.2
      obtain ⟨q9, eq9, h⟩ := bd h
      have rq9 := z_rc (z_some ra0) eq9
      obtain ⟨M10, eM10, h⟩ := bd h
      have w := zX16_code fu q9 a1 v8 M7 hB rq9 eM10
      have hS := hS.tr w.1
      have hB := w.2
      have z := ih a0 a1 a2 a3 a4 (a5 + (1 : Int32)) M10 hB ra0 h
      exact ⟨hS.tr z.1, z.2⟩
theorem zX16_make_L149 (fu : Nat)   (a0 : Nat) (a1 : Option Nat) (a2 : Int32) (a3 : Int32) (a4 : Int32)  (M : Mm) {out : Mm} (hB : RW M) (ra0 : a0 = 323) (h : fX16_make_L149 fu  a0 a1 a2 a3 a4 M = some out) : Zq M out ∧ RW out := by
  unfold fX16_make_L149 at h
  have hS : Zq M M := Zq.rf
  by_cases hc : a2 < 0
  · have h := (if_pos hc).symm.trans h
    have z := zX16_make_L205 fu   a0 a1 a2 a3 a4 M hB ra0 h
    exact ⟨hS.tr z.1, z.2⟩
  · have h := (if_neg hc).symm.trans h
    obtain ⟨q1, eq1, h⟩ := bd h
    have rq1 := z_rc (z_some ra0) eq1
    obtain ⟨M2, eM2, h⟩ := bd h
    have w := zX16_say fu q1 a1 (some 47) M hB rq1 eM2
    have hS := hS.tr w.1
    have hB := w.2
    have z := zX16_make_L164 fu   fu a0 a1 a2 a3 a4 (0 : Int32) M2 hB ra0 h
    exact ⟨hS.tr z.1, z.2⟩
theorem zX16_make_L94 (fu : Nat)   (a0 : Nat) (a1 : Option Nat) (a2 : Int32) (a3 : Int32) (s0 : Int32) (M : Mm) {out : Mm} (hB : RW M) (ra0 : a0 = 323) (h : fX16_make_L94 fu  a0 a1 a2 a3 s0 M = some out) : Zq M out ∧ RW out := by
  unfold fX16_make_L94 at h
  have hS : Zq M M := Zq.rf
  obtain ⟨v1, ev1, h⟩ := bd h
  by_cases hc : v1 = (304 : Int32)
  · have h := (if_pos hc).symm.trans h
    have z := zX16_make_L149 fu   a0 a1 a2 a3 s0 M hB ra0 h
    exact ⟨hS.tr z.1, z.2⟩
  · have h := (if_neg hc).symm.trans h
    obtain ⟨q2, eq2, h⟩ := bd h
    have rq2 := z_rc (z_some ra0) eq2
    obtain ⟨M3, eM3, h⟩ := bd h
    have w := zX16_say fu q2 a1 (some 45) M hB rq2 eM3
    have hS := hS.tr w.1
    have hB := w.2
    obtain ⟨q4, eq4, h⟩ := bd h
    have rq4 := z_rc (z_some ra0) eq4
    obtain ⟨M5, eM5, h⟩ := bd h
    have w := zX16_sayNumber fu q4 a1 s0 M3 hB rq4 eM5
    have hS := hS.tr w.1
    have hB := w.2
    obtain ⟨q6, eq6, h⟩ := bd h
    have rq6 := z_rc (z_some ra0) eq6
    obtain ⟨M7, eM7, h⟩ := bd h
    have w := zX16_line fu q6 a1 M5 hB rq6 eM7
    have hS := hS.tr w.1
    have hB := w.2
    obtain ⟨q8, eq8, h⟩ := bd h
    have rq8 := z_rc (z_some ra0) eq8
    obtain ⟨M9, eM9, h⟩ := bd h
    have w := zX16_say fu q8 a1 (some 46) M7 hB rq8 eM9
    have hS := hS.tr w.1
    have hB := w.2
    obtain ⟨q10, eq10, h⟩ := bd h
    have rq10 := z_rc (z_some ra0) eq10
    obtain ⟨v12, M11, eM11, h⟩ := b2d h
    have w := zX16_type fu q10 a2 M9 hB rq10 eM11
    have hS := hS.tr w.1
    have hB := w.2
    obtain ⟨q13, eq13, h⟩ := bd h
    have rq13 := z_rc (z_some ra0) eq13
    obtain ⟨M14, eM14, h⟩ := bd h
    have w := zX16_say fu q13 a1 v12 M11 hB rq13 eM14
    have hS := hS.tr w.1
    have hB := w.2
    obtain ⟨q15, eq15, h⟩ := bd h
    have rq15 := z_rc (z_some ra0) eq15
    obtain ⟨M16, eM16, h⟩ := bd h
    have w := zX16_line fu q15 a1 M14 hB rq15 eM16
    have hS := hS.tr w.1
    have hB := w.2
    have z := zX16_make_L149 fu   a0 a1 a2 a3 s0 M16 hB ra0 h
    exact ⟨hS.tr z.1, z.2⟩
theorem zX16_make (fu : Nat)   (a0 : Nat) (a1 : Option Nat) (a2 : Int32) (a3 : Int32)  (M : Mm) {out : Mm} (hB : RW M) (ra0 : a0 = 323) (h : fX16_make fu  a0 a1 a2 a3 M = some out) : Zq M out ∧ RW out := by
  unfold fX16_make at h
  have hS : Zq M M := Zq.rf
  obtain ⟨v1, ev1, h⟩ := bd h
  obtain ⟨v2, ev2, h⟩ := bd h
  obtain ⟨M3, eM3, h⟩ := bd h
  have w := z_pI hB eM3 (by decide)
  have hS := hS.tr w.1
  have hB := w.2
  obtain ⟨v4, ev4, h⟩ := bd h
  obtain ⟨M5, eM5, h⟩ := bd h
  have w := z_pF hB eM5 (by decide)
  have hS := hS.tr w.1
  have hB := w.2
  obtain ⟨M6, eM6, h⟩ := bd h
  have w := z_pF hB eM6 (by decide)
  have hS := hS.tr w.1
  have hB := w.2
  obtain ⟨M7, eM7, h⟩ := bd h
  have w := z_pZ hB eM7 (by decide)
  have hS := hS.tr w.1
  have hB := w.2
  obtain ⟨q8, eq8, h⟩ := bd h
  have rq8 := z_rc (z_some ra0) eq8
  obtain ⟨M9, eM9, h⟩ := bd h
  have w := zX16_say fu q8 a1 (some 23) M7 hB rq8 eM9
  have hS := hS.tr w.1
  have hB := w.2
  obtain ⟨v10, ev10, h⟩ := bd h
  obtain ⟨q11, eq11, h⟩ := bd h
  have rq11 := z_rc (z_some ra0) eq11
  obtain ⟨M12, eM12, h⟩ := bd h
  have w := zX16_sayNumber fu q11 a1 v10 M9 hB rq11 eM12
  have hS := hS.tr w.1
  have hB := w.2
  obtain ⟨q13, eq13, h⟩ := bd h
  have rq13 := z_rc (z_some ra0) eq13
  obtain ⟨M14, eM14, h⟩ := bd h
  have w := zX16_code fu q13 a1 (32 : Int32) M12 hB rq13 eM14
  have hS := hS.tr w.1
  have hB := w.2
  obtain ⟨v15, ev15, h⟩ := bd h
  obtain ⟨v17, M16, eM16, h⟩ := b2d h
  have w := zX16_phrase fu  v15 M14 hB  eM16
  have hS := hS.tr w.1
  have hB := w.2
  obtain ⟨q18, eq18, h⟩ := bd h
  have rq18 := z_rc (z_some ra0) eq18
  obtain ⟨M19, eM19, h⟩ := bd h
  have w := zX16_say fu q18 a1 v17 M16 hB rq18 eM19
  have hS := hS.tr w.1
  have hB := w.2
  obtain ⟨q20, eq20, h⟩ := bd h
  have rq20 := z_rc (z_some ra0) eq20
  obtain ⟨M21, eM21, h⟩ := bd h
  have w := zX16_line fu q20 a1 M19 hB rq20 eM21
  have hS := hS.tr w.1
  have hB := w.2
  by_cases hc : a2 < 0
  · have h := (if_pos hc).symm.trans h
    obtain ⟨v22, ev22, h⟩ := bd h
    obtain ⟨v24, M23, eM23, h⟩ := b2d h
    have w := zX16_phrase fu  v22 M21 hB  eM23
    have hS := hS.tr w.1
    have hB := w.2
    obtain ⟨q25, eq25, h⟩ := bd h
    obtain ⟨v27, M26, eM26, h⟩ := b2d h
    have w := zJ0_length_8abf5 fu q25  M23 hB  eM26
    have hS := hS.tr w.1
    have hB := w.2
    have z := zX16_make_L94 fu   a0 a1 a2 a3 ((5 : Int32) + v27) M26 hB ra0 h
    exact ⟨hS.tr z.1, z.2⟩
  · have h := (if_neg hc).symm.trans h
    obtain ⟨v28, ev28, h⟩ := bd h
    obtain ⟨v29, ev29, h⟩ := bd h
    have z := zX16_make_L94 fu   a0 a1 a2 a3 v29 M21 hB ra0 h
    exact ⟨hS.tr z.1, z.2⟩
theorem zX16_answer_L351 (fu : Nat)   (a0 : Nat) (a1 : Option Nat) (s0 : Option Nat) (s1 : Option Nat) (s2 : Int32) (s3 : Int32) (M : Mm) {out : Mm} (hB : RW M) (ra0 : a0 = 323) (is0 : s0 = some 323) (h : fX16_answer_L351 fu  a0 a1 s0 s1 s2 s3 M = some out) : Zq M out ∧ RW out := by
  unfold fX16_answer_L351 at h
  have hS : Zq M M := Zq.rf
  obtain ⟨q1, eq1, h⟩ := bd h
  have rq1 := z_rc is0 eq1
  obtain ⟨M2, eM2, h⟩ := bd h
  have w := zX16_make fu q1 s1 s2 s3 M hB rq1 eM2
  have hS := hS.tr w.1
  have hB := w.2
  obtain ⟨v3, ev3, h⟩ := bd h
  obtain ⟨q4, eq4, h⟩ := bd h
  obtain ⟨v6, M5, eM5, h⟩ := b2d h
  have w := zX12_held fu q4  M2 hB  eM5
  have hS := hS.tr w.1
  have hB := w.2
  by_cases hc : (jmin v3 v6) ≤ 0
  · have h := (if_pos hc).symm.trans h
    obtain rfl := Option.some.inj h
    exact ⟨hS, hB⟩
  · have h := (if_neg hc).symm.trans h
    obtain ⟨v7, ev7, h⟩ := bd h
    obtain ⟨M8, eM8, h⟩ := bd h
    have w := z_pF hB eM8 (by decide)
    have hS := hS.tr w.1
    have hB := w.2
    obtain ⟨q9, eq9, h⟩ := bd h
    have rq9 := z_rc (z_some ra0) eq9
    obtain ⟨M10, eM10, h⟩ := bd h
    have w := zX16_take fu q9 a1 (jmin v3 v6) M8 hB rq9 eM10
    have hS := hS.tr w.1
    have hB := w.2
    obtain rfl := Option.some.inj h
    exact ⟨hS, hB⟩
theorem zX16_answer_L346 (fu : Nat)   (a0 : Nat) (a1 : Option Nat) (s0 : Option Nat) (s1 : Option Nat) (s2 : Int32) (M : Mm) {out : Mm} (hB : RW M) (ra0 : a0 = 323) (is0 : s0 = some 323) (h : fX16_answer_L346 fu  a0 a1 s0 s1 s2 M = some out) : Zq M out ∧ RW out := by
  unfold fX16_answer_L346 at h
  have hS : Zq M M := Zq.rf
  have z := zX16_answer_L351 fu   a0 a1 s0 s1 s2 (1 : Int32) M hB ra0 is0 h
  exact ⟨hS.tr z.1, z.2⟩
theorem zX16_answer_L332 (fu : Nat)   (a0 : Nat) (a1 : Option Nat) (a6 : Int32) (a7 : Int32) (a8 : Int32)  (M : Mm) {out : Mm} (hB : RW M) (ra0 : a0 = 323) (h : fX16_answer_L332 fu  a0 a1 a6 a7 a8 M = some out) : Zq M out ∧ RW out := by
  unfold fX16_answer_L332 at h
  have hS : Zq M M := Zq.rf
  by_cases hc : a7 = 0
  · have h := (if_pos hc).symm.trans h
    by_cases hc : a8 = 0
    · have h := (if_pos hc).symm.trans h
      have z := zX16_answer_L346 fu   a0 a1 (some a0) a1 a6 M hB ra0 (z_some ra0) h
      exact ⟨hS.tr z.1, z.2⟩
    · have h := (if_neg hc).symm.trans h
      have z := zX16_answer_L351 fu   a0 a1 (some a0) a1 a6 (0 : Int32) M hB ra0 (z_some ra0) h
      exact ⟨hS.tr z.1, z.2⟩
  · have h := (if_neg hc).symm.trans h
    have z := zX16_answer_L346 fu   a0 a1 (some a0) a1 a6 M hB ra0 (z_some ra0) h
    exact ⟨hS.tr z.1, z.2⟩
theorem zX16_answer_L292 (fu : Nat)   (a0 : Nat) (a1 : Option Nat) (a6 : Int32) (a7 : Int32) (s0 : Int32) (M : Mm) {out : Mm} (hB : RW M) (ra0 : a0 = 323) (h : fX16_answer_L292 fu  a0 a1 a6 a7 s0 M = some out) : Zq M out ∧ RW out := by
  unfold fX16_answer_L292 at h
  have hS : Zq M M := Zq.rf
  obtain ⟨v1, ev1, h⟩ := bd h
  by_cases hc : v1 = (400 : Int32)
  · have h := (if_pos hc).symm.trans h
    have z := zX16_answer_L332 fu   a0 a1 a6 a7 s0 M hB ra0 h
    exact ⟨hS.tr z.1, z.2⟩
  · have h := (if_neg hc).symm.trans h
    obtain ⟨v2, ev2, h⟩ := bd h
    by_cases hc : v2 = (413 : Int32)
    · have h := (if_pos hc).symm.trans h
      have z := zX16_answer_L332 fu   a0 a1 a6 a7 s0 M hB ra0 h
      exact ⟨hS.tr z.1, z.2⟩
    · have h := (if_neg hc).symm.trans h
      obtain ⟨v3, ev3, h⟩ := bd h
      by_cases hc : v3 = (501 : Int32)
      · have h := (if_pos hc).symm.trans h
        have z := zX16_answer_L332 fu   a0 a1 a6 a7 s0 M hB ra0 h
        exact ⟨hS.tr z.1, z.2⟩
      · have h := (if_neg hc).symm.trans h
        obtain ⟨v4, ev4, h⟩ := bd h
        obtain ⟨M5, eM5, h⟩ := bd h
        have w := z_pF hB eM5 (by decide)
        have hS := hS.tr w.1
        have hB := w.2
        have z := zX16_answer_L332 fu   a0 a1 a6 a7 s0 M5 hB ra0 h
        exact ⟨hS.tr z.1, z.2⟩
theorem zX16_answer_L291 (fu : Nat)   (a0 : Nat) (a1 : Option Nat) (a6 : Int32) (a7 : Int32)  (M : Mm) {out : Mm} (hB : RW M) (ra0 : a0 = 323) (h : fX16_answer_L291 fu  a0 a1 a6 a7 M = some out) : Zq M out ∧ RW out := by
  unfold fX16_answer_L291 at h
  have hS : Zq M M := Zq.rf
  have z := zX16_answer_L292 fu   a0 a1 a6 a7 (0 : Int32) M hB ra0 h
  exact ⟨hS.tr z.1, z.2⟩
theorem zX16_answer_L287 (fu : Nat)   (a0 : Nat) (a1 : Option Nat) (a6 : Int32) (a7 : Int32)  (M : Mm) {out : Mm} (hB : RW M) (ra0 : a0 = 323) (h : fX16_answer_L287 fu  a0 a1 a6 a7 M = some out) : Zq M out ∧ RW out := by
  unfold fX16_answer_L287 at h
  have hS : Zq M M := Zq.rf
  have z := zX16_answer_L292 fu   a0 a1 a6 a7 (1 : Int32) M hB ra0 h
  exact ⟨hS.tr z.1, z.2⟩
theorem zX16_answer_L249 (fu : Nat)   (a0 : Nat) (a1 : Option Nat) (a5 : Int32) (a6 : Int32) (s0 : Int32) (M : Mm) {out : Mm} (hB : RW M) (ra0 : a0 = 323) (h : fX16_answer_L249 fu  a0 a1 a5 a6 s0 M = some out) : Zq M out ∧ RW out := by
  unfold fX16_answer_L249 at h
  have hS : Zq M M := Zq.rf
  by_cases hc : a5 = 0
  · have h := (if_pos hc).symm.trans h
    have z := zX16_answer_L291 fu   a0 a1 a6 s0 M hB ra0 h
    exact ⟨hS.tr z.1, z.2⟩
  · have h := (if_neg hc).symm.trans h
    obtain ⟨v1, ev1, h⟩ := bd h
    by_cases hc : v1 = 0
    · have h := (if_pos hc).symm.trans h
      obtain ⟨v2, ev2, h⟩ := bd h
      by_cases hc : v2 = 0
      · have h := (if_pos hc).symm.trans h
        have z := zX16_answer_L287 fu   a0 a1 a6 s0 M hB ra0 h
        exact ⟨hS.tr z.1, z.2⟩
      · have h := (if_neg hc).symm.trans h
        have z := zX16_answer_L291 fu   a0 a1 a6 s0 M hB ra0 h
        exact ⟨hS.tr z.1, z.2⟩
    · have h := (if_neg hc).symm.trans h
      obtain ⟨v3, ev3, h⟩ := bd h
      by_cases hc : v3 = 0
      · have h := (if_pos hc).symm.trans h
        have z := zX16_answer_L291 fu   a0 a1 a6 s0 M hB ra0 h
        exact ⟨hS.tr z.1, z.2⟩
      · have h := (if_neg hc).symm.trans h
        obtain ⟨v4, ev4, h⟩ := bd h
        by_cases hc : v4 = 0
        · have h := (if_pos hc).symm.trans h
          have z := zX16_answer_L287 fu   a0 a1 a6 s0 M hB ra0 h
          exact ⟨hS.tr z.1, z.2⟩
        · have h := (if_neg hc).symm.trans h
          have z := zX16_answer_L291 fu   a0 a1 a6 s0 M hB ra0 h
          exact ⟨hS.tr z.1, z.2⟩
theorem zX16_answer_L244 (fu : Nat)   (a0 : Nat) (a1 : Option Nat) (a5 : Int32) (a6 : Int32)  (M : Mm) {out : Mm} (hB : RW M) (ra0 : a0 = 323) (h : fX16_answer_L244 fu  a0 a1 a5 a6 M = some out) : Zq M out ∧ RW out := by
  unfold fX16_answer_L244 at h
  have hS : Zq M M := Zq.rf
  have z := zX16_answer_L249 fu   a0 a1 a5 a6 (1 : Int32) M hB ra0 h
  exact ⟨hS.tr z.1, z.2⟩
theorem zX16_answer_L204 (fu : Nat)   (a0 : Nat) (a1 : Option Nat) (a5 : Int32) (a6 : Int32)  (M : Mm) {out : Mm} (hB : RW M) (ra0 : a0 = 323) (h : fX16_answer_L204 fu  a0 a1 a5 a6 M = some out) : Zq M out ∧ RW out := by
  unfold fX16_answer_L204 at h
  have hS : Zq M M := Zq.rf
  obtain ⟨v1, ev1, h⟩ := bd h
  by_cases hc : v1 = (400 : Int32)
  · have h := (if_pos hc).symm.trans h
    have z := zX16_answer_L244 fu   a0 a1 a5 a6 M hB ra0 h
    exact ⟨hS.tr z.1, z.2⟩
  · have h := (if_neg hc).symm.trans h
    obtain ⟨v2, ev2, h⟩ := bd h
    by_cases hc : v2 = (413 : Int32)
    · have h := (if_pos hc).symm.trans h
      have z := zX16_answer_L244 fu   a0 a1 a5 a6 M hB ra0 h
      exact ⟨hS.tr z.1, z.2⟩
    · have h := (if_neg hc).symm.trans h
      obtain ⟨v3, ev3, h⟩ := bd h
      by_cases hc : v3 = (500 : Int32)
      · have h := (if_pos hc).symm.trans h
        have z := zX16_answer_L244 fu   a0 a1 a5 a6 M hB ra0 h
        exact ⟨hS.tr z.1, z.2⟩
      · have h := (if_neg hc).symm.trans h
        obtain ⟨v4, ev4, h⟩ := bd h
        by_cases hc : v4 = (501 : Int32)
        · have h := (if_pos hc).symm.trans h
          have z := zX16_answer_L244 fu   a0 a1 a5 a6 M hB ra0 h
          exact ⟨hS.tr z.1, z.2⟩
        · have h := (if_neg hc).symm.trans h
          have z := zX16_answer_L249 fu   a0 a1 a5 a6 (0 : Int32) M hB ra0 h
          exact ⟨hS.tr z.1, z.2⟩
theorem zX16_answer_L183 (fu : Nat)   (a0 : Nat) (a1 : Option Nat) (a4 : Int32) (a5 : Int32) (a6 : Int32)  (M : Mm) {out : Mm} (hB : RW M) (ra0 : a0 = 323) (h : fX16_answer_L183 fu  a0 a1 a4 a5 a6 M = some out) : Zq M out ∧ RW out := by
  unfold fX16_answer_L183 at h
  have hS : Zq M M := Zq.rf
  by_cases hc : a4 = 0
  · have h := (if_pos hc).symm.trans h
    obtain ⟨M4, eM4, h⟩ := bd h
    have w := z_pF hB eM4 (by decide)
    have hS := hS.tr w.1
    have hB := w.2
    have z := zX16_answer_L204 fu   a0 a1 a5 a6 M4 hB ra0 h
    exact ⟨hS.tr z.1, z.2⟩
  · have h := (if_neg hc).symm.trans h
    obtain ⟨q1, eq1, h⟩ := bd h
    have rq1 := z_rc (z_some ra0) eq1
    obtain ⟨v3, M2, eM2, h⟩ := b2d h
    have w := zX16_chosen fu q1  M hB rq1 eM2
    have hS := hS.tr w.1
    have hB := w.2
    have z := zX16_answer_L204 fu   a0 a1 a5 v3 M2 hB ra0 h
    exact ⟨hS.tr z.1, z.2⟩
theorem zX16_answer_L180 (fu : Nat) {out : Mm} (k127 : Nat → Option Nat → Int32 → Int32 → Int32 → Int32 → Mm → Option (Mm)) (hk127 : ∀ (b0 : Nat) (b1 : Option Nat) (b3 : Int32) (b4 : Int32) (b5 : Int32) (b6 : Int32)  (M : Mm), RW M → b0 = 323 → k127 b0 b1 b3 b4 b5 b6 M = some out → Zq M out ∧ RW out) (a0 : Nat) (a1 : Option Nat) (a3 : Int32) (a4 : Int32) (a5 : Int32) (a6 : Int32)  (M : Mm) (hB : RW M) (ra0 : a0 = 323) (h : fX16_answer_L180 fu k127 a0 a1 a3 a4 a5 a6 M = some out) : Zq M out ∧ RW out := by
  unfold fX16_answer_L180 at h
  have hS : Zq M M := Zq.rf
  have z := hk127 a0 a1 a3 a4 a5 a6 M hB ra0 h
  exact ⟨hS.tr z.1, z.2⟩
theorem zX16_answer_L127 (fu : Nat) {out : Mm}   : ∀ (n : Nat) (a0 : Nat) (a1 : Option Nat) (a3 : Int32) (a4 : Int32) (a5 : Int32) (a6 : Int32)  (M : Mm), RW M → a0 = 323 → fX16_answer_L127 fu  n a0 a1 a3 a4 a5 a6 M = some out → Zq M out ∧ RW out := by
  intro n
  induction n with
  | zero =>
    intro a0 a1 a3 a4 a5 a6 M hB ra0 h
    have h : (none : Option (Mm)) = some out := h
    cases h
  | succ n ih =>
    intro a0 a1 a3 a4 a5 a6 M hB ra0 h
    rw [fX16_answer_L127] at h
    have hS : Zq M M := Zq.rf
    by_cases hc : a4 = 0
    · have h := (if_pos hc).symm.trans h
      have z := zX16_answer_L183 fu   a0 a1 a4 a5 a6 M hB ra0 h
      exact ⟨hS.tr z.1, z.2⟩
    · have h := (if_neg hc).symm.trans h
      obtain ⟨v1, ev1, h⟩ := bd h
      by_cases hc : v1 ≤ (a3 + (1 : Int32))
      · have h := (if_pos hc).symm.trans h
        have z := zX16_answer_L183 fu   a0 a1 a4 a5 a6 M hB ra0 h
        exact ⟨hS.tr z.1, z.2⟩
      · have h := (if_neg hc).symm.trans h
        obtain ⟨q2, eq2, h⟩ := bd h
        have rq2 := z_rc (z_some ra0) eq2
        obtain ⟨v4, M3, eM3, h⟩ := b2d h
        have w := zX16_lineEnd fu q2 (a3 + (1 : Int32)) M hB rq2 eM3
        have hS := hS.tr w.1
        have hB := w.2
        obtain ⟨q5, eq5, h⟩ := bd h
        have rq5 := z_rc (z_some ra0) eq5
        obtain ⟨v7, M6, eM6, h⟩ := b2d h
        have w := zX16_shown fu q5 (a3 + (1 : Int32)) v4 M3 hB rq5 eM6
        have hS := hS.tr w.1
        have hB := w.2
        by_cases hc : v7 ≤ (a3 + (1 : Int32))
        · have h := (if_pos hc).symm.trans h
          have z := zX16_answer_L180 fu (fun b0 b1 b3 b4 b5 b6 M => fX16_answer_L127 fu  n b0 b1 b3 b4 b5 b6 M) ih a0 a1 v4 a4 a5 a6 M6 hB ra0 h
          exact ⟨hS.tr z.1, z.2⟩
        · have h := (if_neg hc).symm.trans h
          obtain ⟨q8, eq8, h⟩ := bd h
          have rq8 := z_rc (z_some ra0) eq8
          obtain ⟨v10, M9, eM9, h⟩ := b2d h
          have w := zX16_field fu q8 (a3 + (1 : Int32)) v7 M6 hB rq8 eM9
          have hS := hS.tr w.1
          have hB := w.2
          have z := zX16_answer_L180 fu (fun b0 b1 b3 b4 b5 b6 M => fX16_answer_L127 fu  n b0 b1 b3 b4 b5 b6 M) ih a0 a1 v4 v10 a5 a6 M9 hB ra0 h
          exact ⟨hS.tr z.1, z.2⟩
theorem zX16_answer_L7 (fu : Nat) {out : Mm}   : ∀ (n : Nat) (a0 : Nat) (a1 : Option Nat) (a2 : Int32) (a3 : Int32)  (M : Mm), RW M → a0 = 323 → fX16_answer_L7 fu  n a0 a1 a2 a3 M = some out → Zq M out ∧ RW out := by
  intro n
  induction n with
  | zero =>
    intro a0 a1 a2 a3 M hB ra0 h
    have h : (none : Option (Mm)) = some out := h
    cases h
  | succ n ih =>
    intro a0 a1 a2 a3 M hB ra0 h
    rw [fX16_answer_L7] at h
    have hS : Zq M M := Zq.rf
    by_cases hc : a2 ≤ a3
    · have h := (if_pos hc).symm.trans h
      obtain ⟨q1, eq1, h⟩ := bd h
      have rq1 := z_rc (z_some ra0) eq1
      obtain ⟨M2, eM2, h⟩ := bd h
      have w := zX16_take fu q1 a1 a2 M hB rq1 eM2
      have hS := hS.tr w.1
      have hB := w.2
      obtain ⟨M3, eM3, h⟩ := bd h
      have w := z_pF hB eM3 (by decide)
      have hS := hS.tr w.1
      have hB := w.2
      obtain ⟨M4, eM4, h⟩ := bd h
      have w := z_pZ hB eM4 (by decide)
      have hS := hS.tr w.1
      have hB := w.2
      obtain ⟨M5, eM5, h⟩ := bd h
      have w := z_pZ hB eM5 (by decide)
      have hS := hS.tr w.1
      have hB := w.2
      obtain ⟨M6, eM6, h⟩ := bd h
      have w := z_pZ hB eM6 (by decide)
      have hS := hS.tr w.1
      have hB := w.2
      obtain ⟨M7, eM7, h⟩ := bd h
      have w := z_pZ hB eM7 (by decide)
      have hS := hS.tr w.1
      have hB := w.2
      obtain ⟨M8, eM8, h⟩ := bd h
      have w := z_pF hB eM8 (by decide)
      have hS := hS.tr w.1
      have hB := w.2
      obtain ⟨M9, eM9, h⟩ := bd h
      have w := z_pF hB eM9 (by decide)
      have hS := hS.tr w.1
      have hB := w.2
      obtain ⟨M10, eM10, h⟩ := bd h
      have w := z_pF hB eM10 (by decide)
      have hS := hS.tr w.1
      have hB := w.2
      obtain ⟨M11, eM11, h⟩ := bd h
      have w := z_pF hB eM11 (by decide)
      have hS := hS.tr w.1
      have hB := w.2
      obtain ⟨M12, eM12, h⟩ := bd h
      have w := z_pZ hB eM12 (by decide)
      have hS := hS.tr w.1
      have hB := w.2
      obtain ⟨M13, eM13, h⟩ := bd h
      have w := z_pZ hB eM13 (by decide)
      have hS := hS.tr w.1
      have hB := w.2
      obtain ⟨M14, eM14, h⟩ := bd h
      have w := z_pZ hB eM14 (by decide)
      have hS := hS.tr w.1
      have hB := w.2
      obtain ⟨M15, eM15, h⟩ := bd h
      have w := z_pZ hB eM15 (by decide)
      have hS := hS.tr w.1
      have hB := w.2
      obtain ⟨q16, eq16, h⟩ := bd h
      have rq16 := z_rc (z_some ra0) eq16
      obtain ⟨v18, M17, eM17, h⟩ := b2d h
      have w := zX16_lineEnd fu q16 (0 : Int32) M15 hB rq16 eM17
      have hS := hS.tr w.1
      have hB := w.2
      obtain ⟨q19, eq19, h⟩ := bd h
      have rq19 := z_rc (z_some ra0) eq19
      obtain ⟨v21, M20, eM20, h⟩ := b2d h
      have w := zX16_shown fu q19 (0 : Int32) v18 M17 hB rq19 eM20
      have hS := hS.tr w.1
      have hB := w.2
      obtain ⟨q22, eq22, h⟩ := bd h
      have rq22 := z_rc (z_some ra0) eq22
      obtain ⟨v24, M23, eM23, h⟩ := b2d h
      have w := zX16_requestLine fu q22 (0 : Int32) v21 M20 hB rq22 eM23
      have hS := hS.tr w.1
      have hB := w.2
      have z := zX16_answer_L127 fu   fu a0 a1 v18 v24 v24 (-1 : Int32) M23 hB ra0 h
      exact ⟨hS.tr z.1, z.2⟩
    · have h := (if_neg hc).symm.trans h
      obtain ⟨v25, ev25, h⟩ := bd h
      obtain ⟨v26, ev26, h⟩ := bd h
      obtain ⟨v27, ev27, h⟩ := bd h
      obtain ⟨M28, eM28, h⟩ := bd h
      have w := z_pA hB (by decide) eM28
      have hS := hS.tr w.1
      have hB := w.2
      have z := ih a0 a1 a2 (a3 + (1 : Int32)) M28 hB ra0 h
      exact ⟨hS.tr z.1, z.2⟩
theorem zX16_answer (fu : Nat)   (a0 : Nat) (a1 : Option Nat) (a2 : Int32)  (M : Mm) {out : Mm} (hB : RW M) (ra0 : a0 = 323) (h : fX16_answer fu  a0 a1 a2 M = some out) : Zq M out ∧ RW out := by
  unfold fX16_answer at h
  have hS : Zq M M := Zq.rf
  obtain ⟨M1, eM1, h⟩ := bd h
  have w := z_pF hB eM1 (by decide)
  have hS := hS.tr w.1
  have hB := w.2
  have z := zX16_answer_L7 fu   fu a0 a1 a2 (0 : Int32) M1 hB ra0 h
  exact ⟨hS.tr z.1, z.2⟩
theorem zX16_refuse (fu : Nat)   (a0 : Nat) (a1 : Option Nat)  (M : Mm) {out : Mm} (hB : RW M) (ra0 : a0 = 323) (h : fX16_refuse fu  a0 a1 M = some out) : Zq M out ∧ RW out := by
  unfold fX16_refuse at h
  have hS : Zq M M := Zq.rf
  obtain ⟨q1, eq1, h⟩ := bd h
  obtain ⟨v3, M2, eM2, h⟩ := b2d h
  have w := zX12_held fu q1  M hB  eM2
  have hS := hS.tr w.1
  have hB := w.2
  obtain ⟨q4, eq4, h⟩ := bd h
  have rq4 := z_rc (z_some ra0) eq4
  obtain ⟨M5, eM5, h⟩ := bd h
  have w := zX16_take fu q4 a1 v3 M2 hB rq4 eM5
  have hS := hS.tr w.1
  have hB := w.2
  obtain ⟨M6, eM6, h⟩ := bd h
  have w := z_pZ hB eM6 (by decide)
  have hS := hS.tr w.1
  have hB := w.2
  obtain ⟨M7, eM7, h⟩ := bd h
  have w := z_pF hB eM7 (by decide)
  have hS := hS.tr w.1
  have hB := w.2
  obtain ⟨q8, eq8, h⟩ := bd h
  have rq8 := z_rc (z_some ra0) eq8
  obtain ⟨M9, eM9, h⟩ := bd h
  have w := zX16_make fu q8 a1 (-1 : Int32) (1 : Int32) M7 hB rq8 eM9
  have hS := hS.tr w.1
  have hB := w.2
  obtain rfl := Option.some.inj h
  exact ⟨hS, hB⟩
theorem zX16_oneRequest_L76 (fu : Nat)   (a0 : Nat) (a1 : Option Nat) (s0 : Int32) (M : Mm) {out : Int32 × Mm} (hB : RW M) (ra0 : a0 = 323) (h : fX16_oneRequest_L76 fu  a0 a1 s0 M = some out) : Zq M out.2 ∧ RW out.2 := by
  unfold fX16_oneRequest_L76 at h
  have hS : Zq M M := Zq.rf
  by_cases hc : s0 ≤ 0
  · have h := (if_pos hc).symm.trans h
    obtain ⟨q1, eq1, h⟩ := bd h
    obtain ⟨v3, M2, eM2, h⟩ := b2d h
    have w := zX12_held fu q1  M hB  eM2
    have hS := hS.tr w.1
    have hB := w.2
    by_cases hc : v3 = (4096 : Int32)
    · have h := (if_pos hc).symm.trans h
      obtain ⟨q6, eq6, h⟩ := bd h
      have rq6 := z_rc (z_some ra0) eq6
      obtain ⟨M7, eM7, h⟩ := bd h
      have w := zX16_refuse fu q6 a1 M2 hB rq6 eM7
      have hS := hS.tr w.1
      have hB := w.2
      obtain ⟨hz, rfl⟩ := rN_some h
      exact ⟨hS, hB⟩
    · have h := (if_neg hc).symm.trans h
      obtain ⟨v4, ev4, h⟩ := bd h
      by_cases hc : v4 = (7 : Int32)
      · have h := (if_pos hc).symm.trans h
        obtain ⟨M5, eM5, h⟩ := bd h
        have w := z_pZ hB eM5 (by decide)
        have hS := hS.tr w.1
        have hB := w.2
        obtain ⟨hz, rfl⟩ := rN_some h
        exact ⟨hS, hB⟩
      · have h := (if_neg hc).symm.trans h
        obtain ⟨hz, rfl⟩ := rN_some h
        exact ⟨hS, hB⟩
  · have h := (if_neg hc).symm.trans h
    obtain ⟨q8, eq8, h⟩ := bd h
    have rq8 := z_rc (z_some ra0) eq8
    obtain ⟨M9, eM9, h⟩ := bd h
    have w := zX16_answer fu q8 a1 s0 M hB rq8 eM9
    have hS := hS.tr w.1
    have hB := w.2
    obtain ⟨hz, rfl⟩ := rN_some h
    exact ⟨hS, hB⟩
theorem zX16_oneRequest_L60 (fu : Nat)   (a0 : Nat) (a1 : Option Nat)  (M : Mm) {out : Int32 × Mm} (hB : RW M) (ra0 : a0 = 323) (h : fX16_oneRequest_L60 fu  a0 a1 M = some out) : Zq M out.2 ∧ RW out.2 := by
  unfold fX16_oneRequest_L60 at h
  have hS : Zq M M := Zq.rf
  obtain ⟨v1, ev1, h⟩ := bd h
  by_cases hc : v1 = 0
  · have h := (if_pos hc).symm.trans h
    obtain ⟨q2, eq2, h⟩ := bd h
    have rq2 := z_rc (z_some ra0) eq2
    obtain ⟨v4, M3, eM3, h⟩ := b2d h
    have w := zX16_headBytes fu q2 a1 M hB rq2 eM3
    have hS := hS.tr w.1
    have hB := w.2
    have z := zX16_oneRequest_L76 fu   a0 a1 v4 M3 hB ra0 h
    exact ⟨hS.tr z.1, z.2⟩
  · have h := (if_neg hc).symm.trans h
    have z := zX16_oneRequest_L76 fu   a0 a1 (0 : Int32) M hB ra0 h
    exact ⟨hS.tr z.1, z.2⟩
theorem zX16_oneRequest_L54 (fu : Nat) {out : Int32 × Mm} (k0 : Nat → Option Nat → Mm → Option (Int32 × Mm)) (hk0 : ∀ (b0 : Nat) (b1 : Option Nat)  (M : Mm), RW M → b0 = 323 → k0 b0 b1 M = some out → Zq M out.2 ∧ RW out.2) (a0 : Nat) (a1 : Option Nat) (s0 : Option Nat) (s1 : Option Nat) (s2 : Int32) (M : Mm) (hB : RW M) (ra0 : a0 = 323) (is0 : s0 = some 323) (h : fX16_oneRequest_L54 fu k0 a0 a1 s0 s1 s2 M = some out) : Zq M out.2 ∧ RW out.2 := by
  unfold fX16_oneRequest_L54 at h
  have hS : Zq M M := Zq.rf
  obtain ⟨q1, eq1, h⟩ := bd h
  have rq1 := z_rc is0 eq1
  obtain ⟨M2, eM2, h⟩ := bd h
  have w := zX16_take fu q1 s1 s2 M hB rq1 eM2
  have hS := hS.tr w.1
  have hB := w.2
  have z := hk0 a0 a1 M2 hB ra0 h
  exact ⟨hS.tr z.1, z.2⟩
theorem zX16_oneRequest_L37 (fu : Nat) {out : Int32 × Mm} (k0 : Nat → Option Nat → Mm → Option (Int32 × Mm)) (hk0 : ∀ (b0 : Nat) (b1 : Option Nat)  (M : Mm), RW M → b0 = 323 → k0 b0 b1 M = some out → Zq M out.2 ∧ RW out.2) (a0 : Nat) (a1 : Option Nat)  (M : Mm) (hB : RW M) (ra0 : a0 = 323) (h : fX16_oneRequest_L37 fu k0 a0 a1 M = some out) : Zq M out.2 ∧ RW out.2 := by
  unfold fX16_oneRequest_L37 at h
  have hS : Zq M M := Zq.rf
  obtain ⟨v2, M1, eM1, h⟩ := b2d h
  have w := zX16_byteAt fu  a1 (0 : Int32) M hB  eM1
  have hS := hS.tr w.1
  have hB := w.2
  by_cases hc : v2 = (10 : Int32)
  · have h := (if_pos hc).symm.trans h
    have z := zX16_oneRequest_L54 fu k0 hk0 a0 a1 (some a0) a1 (1 : Int32) M1 hB ra0 (z_some ra0) h
    exact ⟨hS.tr z.1, z.2⟩
  · have h := (if_neg hc).symm.trans h
    have z := zX16_oneRequest_L54 fu k0 hk0 a0 a1 (some a0) a1 (2 : Int32) M1 hB ra0 (z_some ra0) h
    exact ⟨hS.tr z.1, z.2⟩
theorem zX16_oneRequest_H (fu : Nat) {out : Int32 × Mm}   : ∀ (n : Nat) (a0 : Nat) (a1 : Option Nat)  (M : Mm), RW M → a0 = 323 → fX16_oneRequest_H fu  n a0 a1 M = some out → Zq M out.2 ∧ RW out.2 := by
  intro n
  induction n with
  | zero =>
    intro a0 a1 M hB ra0 h
    have h : (none : Option (Int32 × Mm)) = some out := h
    cases h
  | succ n ih =>
    intro a0 a1 M hB ra0 h
    rw [fX16_oneRequest_H] at h
    have hS : Zq M M := Zq.rf
    obtain ⟨v1, ev1, h⟩ := bd h
    by_cases hc : v1 = 0
    · have h := (if_pos hc).symm.trans h
      obtain ⟨v3, M2, eM2, h⟩ := b2d h
      have w := zX16_byteAt fu  a1 (0 : Int32) M hB  eM2
      have hS := hS.tr w.1
      have hB := w.2
      by_cases hc : v3 = (10 : Int32)
      · have h := (if_pos hc).symm.trans h
        have z := zX16_oneRequest_L37 fu (fun b0 b1 M => fX16_oneRequest_H fu  n b0 b1 M) ih a0 a1 M2 hB ra0 h
        exact ⟨hS.tr z.1, z.2⟩
      · have h := (if_neg hc).symm.trans h
        obtain ⟨v5, M4, eM4, h⟩ := b2d h
        have w := zX16_byteAt fu  a1 (0 : Int32) M2 hB  eM4
        have hS := hS.tr w.1
        have hB := w.2
        by_cases hc : v5 = (13 : Int32)
        · have h := (if_pos hc).symm.trans h
          obtain ⟨v7, M6, eM6, h⟩ := b2d h
          have w := zX16_byteAt fu  a1 (1 : Int32) M4 hB  eM6
          have hS := hS.tr w.1
          have hB := w.2
          by_cases hc : v7 = (10 : Int32)
          · have h := (if_pos hc).symm.trans h
            have z := zX16_oneRequest_L37 fu (fun b0 b1 M => fX16_oneRequest_H fu  n b0 b1 M) ih a0 a1 M6 hB ra0 h
            exact ⟨hS.tr z.1, z.2⟩
          · have h := (if_neg hc).symm.trans h
            have z := zX16_oneRequest_L60 fu   a0 a1 M6 hB ra0 h
            exact ⟨hS.tr z.1, z.2⟩
        · have h := (if_neg hc).symm.trans h
          have z := zX16_oneRequest_L60 fu   a0 a1 M4 hB ra0 h
          exact ⟨hS.tr z.1, z.2⟩
    · have h := (if_neg hc).symm.trans h
      have z := zX16_oneRequest_L60 fu   a0 a1 M hB ra0 h
      exact ⟨hS.tr z.1, z.2⟩
theorem zX16_oneRequest (fu : Nat) (a0 : Nat) (a1 : Option Nat) (M : Mm) {out : Int32 × Mm} (hB : RW M) (ra0 : a0 = 323) (h : fX16_oneRequest fu a0 a1 M = some out) : Zq M out.2 ∧ RW out.2 := zX16_oneRequest_H fu fu a0 a1 M hB ra0 h
theorem zX16_requests_L109 (fu : Nat) {out : Mm} (k2 : Nat → Option Nat → Int32 → Mm → Option (Mm)) (hk2 : ∀ (b0 : Nat) (b1 : Option Nat) (b2 : Int32)  (M : Mm), RW M → b0 = 323 → k2 b0 b1 b2 M = some out → Zq M out ∧ RW out) (a0 : Nat) (a1 : Option Nat) (s0 : Int32) (M : Mm) (hB : RW M) (ra0 : a0 = 323) (h : fX16_requests_L109 fu k2 a0 a1 s0 M = some out) : Zq M out ∧ RW out := by
  unfold fX16_requests_L109 at h
  have hS : Zq M M := Zq.rf
  have z := hk2 a0 a1 s0 M hB ra0 h
  exact ⟨hS.tr z.1, z.2⟩
theorem zX16_requests_L108 (fu : Nat) {out : Mm} (k2 : Nat → Option Nat → Int32 → Mm → Option (Mm)) (hk2 : ∀ (b0 : Nat) (b1 : Option Nat) (b2 : Int32)  (M : Mm), RW M → b0 = 323 → k2 b0 b1 b2 M = some out → Zq M out ∧ RW out) (a0 : Nat) (a1 : Option Nat)  (M : Mm) (hB : RW M) (ra0 : a0 = 323) (h : fX16_requests_L108 fu k2 a0 a1 M = some out) : Zq M out ∧ RW out := by
  unfold fX16_requests_L108 at h
  have hS : Zq M M := Zq.rf
  have z := zX16_requests_L109 fu k2 hk2 a0 a1 (0 : Int32) M hB ra0 h
  exact ⟨hS.tr z.1, z.2⟩
theorem zX16_requests_L89 (fu : Nat) {out : Mm} (k2 : Nat → Option Nat → Int32 → Mm → Option (Mm)) (hk2 : ∀ (b0 : Nat) (b1 : Option Nat) (b2 : Int32)  (M : Mm), RW M → b0 = 323 → k2 b0 b1 b2 M = some out → Zq M out ∧ RW out) (a0 : Nat) (a1 : Option Nat) (s0 : Int32) (M : Mm) (hB : RW M) (ra0 : a0 = 323) (h : fX16_requests_L89 fu k2 a0 a1 s0 M = some out) : Zq M out ∧ RW out := by
  unfold fX16_requests_L89 at h
  have hS : Zq M M := Zq.rf
  by_cases hc : s0 = 0
  · have h := (if_pos hc).symm.trans h
    have z := zX16_requests_L108 fu k2 hk2 a0 a1 M hB ra0 h
    exact ⟨hS.tr z.1, z.2⟩
  · have h := (if_neg hc).symm.trans h
    obtain ⟨q1, eq1, h⟩ := bd h
    have rq1 := z_rc (z_some ra0) eq1
    obtain ⟨v3, M2, eM2, h⟩ := b2d h
    have w := zX16_oneRequest fu q1 a1 M hB rq1 eM2
    have hS := hS.tr w.1
    have hB := w.2
    by_cases hc : v3 = 0
    · have h := (if_pos hc).symm.trans h
      have z := zX16_requests_L108 fu k2 hk2 a0 a1 M2 hB ra0 h
      exact ⟨hS.tr z.1, z.2⟩
    · have h := (if_neg hc).symm.trans h
      have z := zX16_requests_L109 fu k2 hk2 a0 a1 (1 : Int32) M2 hB ra0 h
      exact ⟨hS.tr z.1, z.2⟩
theorem zX16_requests_L88 (fu : Nat) {out : Mm} (k2 : Nat → Option Nat → Int32 → Mm → Option (Mm)) (hk2 : ∀ (b0 : Nat) (b1 : Option Nat) (b2 : Int32)  (M : Mm), RW M → b0 = 323 → k2 b0 b1 b2 M = some out → Zq M out ∧ RW out) (a0 : Nat) (a1 : Option Nat)  (M : Mm) (hB : RW M) (ra0 : a0 = 323) (h : fX16_requests_L88 fu k2 a0 a1 M = some out) : Zq M out ∧ RW out := by
  unfold fX16_requests_L88 at h
  have hS : Zq M M := Zq.rf
  have z := zX16_requests_L89 fu k2 hk2 a0 a1 (0 : Int32) M hB ra0 h
  exact ⟨hS.tr z.1, z.2⟩
theorem zX16_requests_L55 (fu : Nat) {out : Mm} (k2 : Nat → Option Nat → Int32 → Mm → Option (Mm)) (hk2 : ∀ (b0 : Nat) (b1 : Option Nat) (b2 : Int32)  (M : Mm), RW M → b0 = 323 → k2 b0 b1 b2 M = some out → Zq M out ∧ RW out) (a0 : Nat) (a1 : Option Nat)  (M : Mm) (hB : RW M) (ra0 : a0 = 323) (h : fX16_requests_L55 fu k2 a0 a1 M = some out) : Zq M out ∧ RW out := by
  unfold fX16_requests_L55 at h
  have hS : Zq M M := Zq.rf
  obtain ⟨v1, ev1, h⟩ := bd h
  by_cases hc : v1 = 0
  · have h := (if_pos hc).symm.trans h
    obtain ⟨v2, ev2, h⟩ := bd h
    obtain ⟨q3, eq3, h⟩ := bd h
    obtain ⟨v5, M4, eM4, h⟩ := b2d h
    have w := zX12_left fu q3 v2 M hB  eM4
    have hS := hS.tr w.1
    have hB := w.2
    by_cases hc : v5 = 0
    · have h := (if_pos hc).symm.trans h
      obtain ⟨v6, ev6, h⟩ := bd h
      obtain ⟨v7, ev7, h⟩ := bd h
      by_cases hc : v6 = v7
      · have h := (if_pos hc).symm.trans h
        have z := zX16_requests_L89 fu k2 hk2 a0 a1 (1 : Int32) M4 hB ra0 h
        exact ⟨hS.tr z.1, z.2⟩
      · have h := (if_neg hc).symm.trans h
        have z := zX16_requests_L88 fu k2 hk2 a0 a1 M4 hB ra0 h
        exact ⟨hS.tr z.1, z.2⟩
    · have h := (if_neg hc).symm.trans h
      have z := zX16_requests_L88 fu k2 hk2 a0 a1 M4 hB ra0 h
      exact ⟨hS.tr z.1, z.2⟩
  · have h := (if_neg hc).symm.trans h
    have z := zX16_requests_L88 fu k2 hk2 a0 a1 M hB ra0 h
    exact ⟨hS.tr z.1, z.2⟩
theorem zX16_requests_L38 (fu : Nat) {out : Mm} (k2 : Nat → Option Nat → Int32 → Mm → Option (Mm)) (hk2 : ∀ (b0 : Nat) (b1 : Option Nat) (b2 : Int32)  (M : Mm), RW M → b0 = 323 → k2 b0 b1 b2 M = some out → Zq M out ∧ RW out) (a0 : Nat) (a1 : Option Nat)  (M : Mm) (hB : RW M) (ra0 : a0 = 323) (h : fX16_requests_L38 fu k2 a0 a1 M = some out) : Zq M out ∧ RW out := by
  unfold fX16_requests_L38 at h
  have hS : Zq M M := Zq.rf
  obtain ⟨v1, ev1, h⟩ := bd h
  by_cases hc : v1 = (2 : Int32)
  · have h := (if_pos hc).symm.trans h
    have z := zX16_requests_L55 fu k2 hk2 a0 a1 M hB ra0 h
    exact ⟨hS.tr z.1, z.2⟩
  · have h := (if_neg hc).symm.trans h
    obtain ⟨v2, ev2, h⟩ := bd h
    by_cases hc : v2 = (7 : Int32)
    · have h := (if_pos hc).symm.trans h
      have z := zX16_requests_L55 fu k2 hk2 a0 a1 M hB ra0 h
      exact ⟨hS.tr z.1, z.2⟩
    · have h := (if_neg hc).symm.trans h
      have z := zX16_requests_L88 fu k2 hk2 a0 a1 M hB ra0 h
      exact ⟨hS.tr z.1, z.2⟩
theorem zX16_requests_L2 (fu : Nat) {out : Mm}   : ∀ (n : Nat) (a0 : Nat) (a1 : Option Nat) (a2 : Int32)  (M : Mm), RW M → a0 = 323 → fX16_requests_L2 fu  n a0 a1 a2 M = some out → Zq M out ∧ RW out := by
  intro n
  induction n with
  | zero =>
    intro a0 a1 a2 M hB ra0 h
    have h : (none : Option (Mm)) = some out := h
    cases h
  | succ n ih =>
    intro a0 a1 a2 M hB ra0 h
    rw [fX16_requests_L2] at h
    have hS : Zq M M := Zq.rf
    by_cases hc : a2 = 0
    · have h := (if_pos hc).symm.trans h
      obtain rfl := Option.some.inj h
      exact ⟨hS, hB⟩
    · have h := (if_neg hc).symm.trans h
      obtain ⟨v1, ev1, h⟩ := bd h
      obtain ⟨q2, eq2, h⟩ := bd h
      obtain ⟨v4, M3, eM3, h⟩ := b2d h
      have w := zX12_held fu q2  M hB  eM3
      have hS := hS.tr w.1
      have hB := w.2
      by_cases hc : (jmin v1 v4) ≤ 0
      · have h := (if_pos hc).symm.trans h
        have z := zX16_requests_L38 fu (fun b0 b1 b2 M => fX16_requests_L2 fu  n b0 b1 b2 M) ih a0 a1 M3 hB ra0 h
        exact ⟨hS.tr z.1, z.2⟩
      · have h := (if_neg hc).symm.trans h
        obtain ⟨v5, ev5, h⟩ := bd h
        obtain ⟨M6, eM6, h⟩ := bd h
        have w := z_pF hB eM6 (by decide)
        have hS := hS.tr w.1
        have hB := w.2
        obtain ⟨q7, eq7, h⟩ := bd h
        have rq7 := z_rc (z_some ra0) eq7
        obtain ⟨M8, eM8, h⟩ := bd h
        have w := zX16_take fu q7 a1 (jmin v1 v4) M6 hB rq7 eM8
        have hS := hS.tr w.1
        have hB := w.2
        have z := zX16_requests_L38 fu (fun b0 b1 b2 M => fX16_requests_L2 fu  n b0 b1 b2 M) ih a0 a1 M8 hB ra0 h
        exact ⟨hS.tr z.1, z.2⟩
theorem zX16_requests (fu : Nat)   (a0 : Nat) (a1 : Option Nat)  (M : Mm) {out : Mm} (hB : RW M) (ra0 : a0 = 323) (h : fX16_requests fu  a0 a1 M = some out) : Zq M out ∧ RW out := by
  unfold fX16_requests at h
  have hS : Zq M M := Zq.rf
  have z := zX16_requests_L2 fu   fu a0 a1 (1 : Int32) M hB ra0 h
  exact ⟨hS.tr z.1, z.2⟩
theorem zX16_dataWithin (fu : Nat)   (a0 : Option Nat) (a1 : Int32)  (M : Mm) {out : Int32 × Mm} (hB : RW M)  (h : fX16_dataWithin fu  a0 a1 M = some out) : Zq M out.2 ∧ RW out.2 := by
  unfold fX16_dataWithin at h
  have hS : Zq M M := Zq.rf
  obtain ⟨q1, eq1, h⟩ := bd h
  obtain ⟨v3, M2, eM2, h⟩ := b2d h
  have w := zX12_behind fu q1  M hB  eM2
  have hS := hS.tr w.1
  have hB := w.2
  obtain ⟨v4, ev4, h⟩ := bd h
  obtain ⟨v5, ev5, h⟩ := bd h
  obtain rfl := Option.some.inj h
  exact ⟨hS, hB⟩
theorem zX16_one_L69 (fu : Nat)   (a1 : Option Nat) (s0 : Option Nat) (s1 : Int32) (s2 : Int32) (M : Mm) {out : Mm} (hB : RW M)  (h : fX16_one_L69 fu  a1 s0 s1 s2 M = some out) : Zq M out ∧ RW out := by
  unfold fX16_one_L69 at h
  have hS : Zq M M := Zq.rf
  obtain ⟨M1, eM1, h⟩ := bd h
  have w := z_pF hB eM1 (by decide)
  have hS := hS.tr w.1
  have hB := w.2
  obtain ⟨v2, ev2, h⟩ := bd h
  obtain ⟨v3, ev3, h⟩ := bd h
  obtain ⟨v5, M4, eM4, h⟩ := b2d h
  have w := zX16_before fu  v2 v3 M1 hB  eM4
  have hS := hS.tr w.1
  have hB := w.2
  by_cases hc : v5 = 0
  · have h := (if_pos hc).symm.trans h
    obtain rfl := Option.some.inj h
    exact ⟨hS, hB⟩
  · have h := (if_neg hc).symm.trans h
    obtain ⟨v6, ev6, h⟩ := bd h
    obtain ⟨M7, eM7, h⟩ := bd h
    have w := z_pF hB eM7 (by decide)
    have hS := hS.tr w.1
    have hB := w.2
    obtain rfl := Option.some.inj h
    exact ⟨hS, hB⟩
theorem zX16_one_L36 (fu : Nat)   (a0 : Nat) (a1 : Option Nat) (a3 : Int32) (s0 : Int32) (M : Mm) {out : Mm} (hB : RW M) (ra0 : a0 = 323) (h : fX16_one_L36 fu  a0 a1 a3 s0 M = some out) : Zq M out ∧ RW out := by
  unfold fX16_one_L36 at h
  have hS : Zq M M := Zq.rf
  obtain ⟨v1, ev1, h⟩ := bd h
  obtain ⟨q2, eq2, h⟩ := bd h
  have rq2 := z_rc (z_some ra0) eq2
  obtain ⟨M3, eM3, h⟩ := bd h
  have w := zX16_dataOut fu q2 a1 v1 a3 s0 M hB rq2 eM3
  have hS := hS.tr w.1
  have hB := w.2
  by_cases hc : s0 = 0
  · have h := (if_pos hc).symm.trans h
    have z := zX16_one_L69 fu   a1 a1 (v1 + a3) (0 : Int32) M3 hB  h
    exact ⟨hS.tr z.1, z.2⟩
  · have h := (if_neg hc).symm.trans h
    have z := zX16_one_L69 fu   a1 a1 (v1 + a3) (1 : Int32) M3 hB  h
    exact ⟨hS.tr z.1, z.2⟩
theorem zX16_one_L35 (fu : Nat)   (a0 : Nat) (a1 : Option Nat) (a3 : Int32)  (M : Mm) {out : Mm} (hB : RW M) (ra0 : a0 = 323) (h : fX16_one_L35 fu  a0 a1 a3 M = some out) : Zq M out ∧ RW out := by
  unfold fX16_one_L35 at h
  have hS : Zq M M := Zq.rf
  have z := zX16_one_L36 fu   a0 a1 a3 (0 : Int32) M hB ra0 h
  exact ⟨hS.tr z.1, z.2⟩
theorem zX16_one (fu : Nat)   (a0 : Nat) (a1 : Option Nat) (a2 : Int32)  (M : Mm) {out : Mm} (hB : RW M) (ra0 : a0 = 323) (h : fX16_one fu  a0 a1 a2 M = some out) : Zq M out ∧ RW out := by
  unfold fX16_one at h
  have hS : Zq M M := Zq.rf
  obtain ⟨v2, M1, eM1, h⟩ := b2d h
  have w := zX16_dataWithin fu  a1 a2 M hB  eM1
  have hS := hS.tr w.1
  have hB := w.2
  obtain ⟨v3, ev3, h⟩ := bd h
  by_cases hc : v3 = 0
  · have h := (if_pos hc).symm.trans h
    have z := zX16_one_L35 fu   a0 a1 v2 M1 hB ra0 h
    exact ⟨hS.tr z.1, z.2⟩
  · have h := (if_neg hc).symm.trans h
    obtain ⟨v4, ev4, h⟩ := bd h
    obtain ⟨q5, eq5, h⟩ := bd h
    obtain ⟨v7, M6, eM6, h⟩ := b2d h
    have w := zX12_behind fu q5  M1 hB  eM6
    have hS := hS.tr w.1
    have hB := w.2
    by_cases hc : (v4 + v2) = v7
    · have h := (if_pos hc).symm.trans h
      by_cases hc : a2 ≤ v2
      · have h := (if_pos hc).symm.trans h
        have z := zX16_one_L35 fu   a0 a1 v2 M6 hB ra0 h
        exact ⟨hS.tr z.1, z.2⟩
      · have h := (if_neg hc).symm.trans h
        have z := zX16_one_L36 fu   a0 a1 v2 (1 : Int32) M6 hB ra0 h
        exact ⟨hS.tr z.1, z.2⟩
    · have h := (if_neg hc).symm.trans h
      have z := zX16_one_L35 fu   a0 a1 v2 M6 hB ra0 h
      exact ⟨hS.tr z.1, z.2⟩
theorem zX16_sendAll_L172 (fu : Nat) {out : Mm} (k17 : Nat → Option Nat → Int32 → Mm → Option (Mm)) (hk17 : ∀ (b0 : Nat) (b1 : Option Nat) (b2 : Int32)  (M : Mm), RW M → b0 = 323 → k17 b0 b1 b2 M = some out → Zq M out ∧ RW out) (a0 : Nat) (a1 : Option Nat) (s0 : Int32) (M : Mm) (hB : RW M) (ra0 : a0 = 323) (h : fX16_sendAll_L172 fu k17 a0 a1 s0 M = some out) : Zq M out ∧ RW out := by
  unfold fX16_sendAll_L172 at h
  have hS : Zq M M := Zq.rf
  have z := hk17 a0 a1 s0 M hB ra0 h
  exact ⟨hS.tr z.1, z.2⟩
theorem zX16_sendAll_L171 (fu : Nat) {out : Mm} (k17 : Nat → Option Nat → Int32 → Mm → Option (Mm)) (hk17 : ∀ (b0 : Nat) (b1 : Option Nat) (b2 : Int32)  (M : Mm), RW M → b0 = 323 → k17 b0 b1 b2 M = some out → Zq M out ∧ RW out) (a0 : Nat) (a1 : Option Nat)  (M : Mm) (hB : RW M) (ra0 : a0 = 323) (h : fX16_sendAll_L171 fu k17 a0 a1 M = some out) : Zq M out ∧ RW out := by
  unfold fX16_sendAll_L171 at h
  have hS : Zq M M := Zq.rf
  have z := zX16_sendAll_L172 fu k17 hk17 a0 a1 (0 : Int32) M hB ra0 h
  exact ⟨hS.tr z.1, z.2⟩
theorem zX16_sendAll_L152 (fu : Nat) {out : Mm} (k17 : Nat → Option Nat → Int32 → Mm → Option (Mm)) (hk17 : ∀ (b0 : Nat) (b1 : Option Nat) (b2 : Int32)  (M : Mm), RW M → b0 = 323 → k17 b0 b1 b2 M = some out → Zq M out ∧ RW out) (a0 : Nat) (a1 : Option Nat) (a2 : Int32)  (M : Mm) (hB : RW M) (ra0 : a0 = 323) (h : fX16_sendAll_L152 fu k17 a0 a1 a2 M = some out) : Zq M out ∧ RW out := by
  unfold fX16_sendAll_L152 at h
  have hS : Zq M M := Zq.rf
  by_cases hc : a2 = 0
  · have h := (if_pos hc).symm.trans h
    have z := zX16_sendAll_L171 fu k17 hk17 a0 a1 M hB ra0 h
    exact ⟨hS.tr z.1, z.2⟩
  · have h := (if_neg hc).symm.trans h
    obtain ⟨v1, ev1, h⟩ := bd h
    obtain ⟨q2, eq2, h⟩ := bd h
    obtain ⟨v4, M3, eM3, h⟩ := b2d h
    have w := zX12_left fu q2 v1 M hB  eM3
    have hS := hS.tr w.1
    have hB := w.2
    by_cases hc : v4 ≤ 0
    · have h := (if_pos hc).symm.trans h
      have z := zX16_sendAll_L171 fu k17 hk17 a0 a1 M3 hB ra0 h
      exact ⟨hS.tr z.1, z.2⟩
    · have h := (if_neg hc).symm.trans h
      have z := zX16_sendAll_L172 fu k17 hk17 a0 a1 (1 : Int32) M3 hB ra0 h
      exact ⟨hS.tr z.1, z.2⟩
theorem zX16_sendAll_L140 (fu : Nat) {out : Mm} (k17 : Nat → Option Nat → Int32 → Mm → Option (Mm)) (hk17 : ∀ (b0 : Nat) (b1 : Option Nat) (b2 : Int32)  (M : Mm), RW M → b0 = 323 → k17 b0 b1 b2 M = some out → Zq M out ∧ RW out) (a0 : Nat) (a1 : Option Nat) (a4 : Int32) (s0 : Int32) (M : Mm) (hB : RW M) (ra0 : a0 = 323) (h : fX16_sendAll_L140 fu k17 a0 a1 a4 s0 M = some out) : Zq M out ∧ RW out := by
  unfold fX16_sendAll_L140 at h
  have hS : Zq M M := Zq.rf
  by_cases hc : s0 = 0
  · have h := (if_pos hc).symm.trans h
    have z := zX16_sendAll_L152 fu k17 hk17 a0 a1 s0 M hB ra0 h
    exact ⟨hS.tr z.1, z.2⟩
  · have h := (if_neg hc).symm.trans h
    obtain ⟨q1, eq1, h⟩ := bd h
    have rq1 := z_rc (z_some ra0) eq1
    obtain ⟨M2, eM2, h⟩ := bd h
    have w := zX16_one fu q1 a1 a4 M hB rq1 eM2
    have hS := hS.tr w.1
    have hB := w.2
    have z := zX16_sendAll_L152 fu k17 hk17 a0 a1 s0 M2 hB ra0 h
    exact ⟨hS.tr z.1, z.2⟩
theorem zX16_sendAll_L139 (fu : Nat) {out : Mm} (k17 : Nat → Option Nat → Int32 → Mm → Option (Mm)) (hk17 : ∀ (b0 : Nat) (b1 : Option Nat) (b2 : Int32)  (M : Mm), RW M → b0 = 323 → k17 b0 b1 b2 M = some out → Zq M out ∧ RW out) (a0 : Nat) (a1 : Option Nat) (a4 : Int32)  (M : Mm) (hB : RW M) (ra0 : a0 = 323) (h : fX16_sendAll_L139 fu k17 a0 a1 a4 M = some out) : Zq M out ∧ RW out := by
  unfold fX16_sendAll_L139 at h
  have hS : Zq M M := Zq.rf
  have z := zX16_sendAll_L140 fu k17 hk17 a0 a1 a4 (0 : Int32) M hB ra0 h
  exact ⟨hS.tr z.1, z.2⟩
theorem zX16_sendAll_L135 (fu : Nat) {out : Mm} (k17 : Nat → Option Nat → Int32 → Mm → Option (Mm)) (hk17 : ∀ (b0 : Nat) (b1 : Option Nat) (b2 : Int32)  (M : Mm), RW M → b0 = 323 → k17 b0 b1 b2 M = some out → Zq M out ∧ RW out) (a0 : Nat) (a1 : Option Nat) (a4 : Int32)  (M : Mm) (hB : RW M) (ra0 : a0 = 323) (h : fX16_sendAll_L135 fu k17 a0 a1 a4 M = some out) : Zq M out ∧ RW out := by
  unfold fX16_sendAll_L135 at h
  have hS : Zq M M := Zq.rf
  have z := zX16_sendAll_L140 fu k17 hk17 a0 a1 a4 (1 : Int32) M hB ra0 h
  exact ⟨hS.tr z.1, z.2⟩
theorem zX16_sendAll_L101 (fu : Nat) {out : Mm} (k17 : Nat → Option Nat → Int32 → Mm → Option (Mm)) (hk17 : ∀ (b0 : Nat) (b1 : Option Nat) (b2 : Int32)  (M : Mm), RW M → b0 = 323 → k17 b0 b1 b2 M = some out → Zq M out ∧ RW out) (a0 : Nat) (a1 : Option Nat) (a3 : Int32) (a4 : Int32) (a5 : Int32) (s0 : Int32) (s1 : Int32) (M : Mm) (hB : RW M) (ra0 : a0 = 323) (h : fX16_sendAll_L101 fu k17 a0 a1 a3 a4 a5 s0 s1 M = some out) : Zq M out ∧ RW out := by
  unfold fX16_sendAll_L101 at h
  have hS : Zq M M := Zq.rf
  by_cases hc : (s0 + s1) ≤ 0
  · have h := (if_pos hc).symm.trans h
    have z := zX16_sendAll_L139 fu k17 hk17 a0 a1 a4 M hB ra0 h
    exact ⟨hS.tr z.1, z.2⟩
  · have h := (if_neg hc).symm.trans h
    obtain ⟨v1, ev1, h⟩ := bd h
    by_cases hc : a5 = v1
    · have h := (if_pos hc).symm.trans h
      have z := zX16_sendAll_L135 fu k17 hk17 a0 a1 a4 M hB ra0 h
      exact ⟨hS.tr z.1, z.2⟩
    · have h := (if_neg hc).symm.trans h
      obtain ⟨v2, ev2, h⟩ := bd h
      obtain ⟨q3, eq3, h⟩ := bd h
      obtain ⟨v5, M4, eM4, h⟩ := b2d h
      have w := zX12_left fu q3 v2 M hB  eM4
      have hS := hS.tr w.1
      have hB := w.2
      by_cases hc : (s0 + s1) = v5
      · have h := (if_pos hc).symm.trans h
        have z := zX16_sendAll_L135 fu k17 hk17 a0 a1 a4 M4 hB ra0 h
        exact ⟨hS.tr z.1, z.2⟩
      · have h := (if_neg hc).symm.trans h
        by_cases hc : a3 = 0
        · have h := (if_pos hc).symm.trans h
          have z := zX16_sendAll_L135 fu k17 hk17 a0 a1 a4 M4 hB ra0 h
          exact ⟨hS.tr z.1, z.2⟩
        · have h := (if_neg hc).symm.trans h
          have z := zX16_sendAll_L139 fu k17 hk17 a0 a1 a4 M4 hB ra0 h
          exact ⟨hS.tr z.1, z.2⟩
theorem zX16_sendAll_L87 (fu : Nat) {out : Mm} (k17 : Nat → Option Nat → Int32 → Mm → Option (Mm)) (hk17 : ∀ (b0 : Nat) (b1 : Option Nat) (b2 : Int32)  (M : Mm), RW M → b0 = 323 → k17 b0 b1 b2 M = some out → Zq M out ∧ RW out) (a0 : Nat) (a1 : Option Nat) (a3 : Int32) (a4 : Int32) (a5 : Int32) (s0 : Int32) (M : Mm) (hB : RW M) (ra0 : a0 = 323) (h : fX16_sendAll_L87 fu k17 a0 a1 a3 a4 a5 s0 M = some out) : Zq M out ∧ RW out := by
  unfold fX16_sendAll_L87 at h
  have hS : Zq M M := Zq.rf
  by_cases hc : s0 = 0
  · have h := (if_pos hc).symm.trans h
    have z := zX16_sendAll_L101 fu k17 hk17 a0 a1 a3 a4 a5 a5 (0 : Int32) M hB ra0 h
    exact ⟨hS.tr z.1, z.2⟩
  · have h := (if_neg hc).symm.trans h
    have z := zX16_sendAll_L101 fu k17 hk17 a0 a1 a3 a4 a5 a5 (1 : Int32) M hB ra0 h
    exact ⟨hS.tr z.1, z.2⟩
theorem zX16_sendAll_L86 (fu : Nat) {out : Mm} (k17 : Nat → Option Nat → Int32 → Mm → Option (Mm)) (hk17 : ∀ (b0 : Nat) (b1 : Option Nat) (b2 : Int32)  (M : Mm), RW M → b0 = 323 → k17 b0 b1 b2 M = some out → Zq M out ∧ RW out) (a0 : Nat) (a1 : Option Nat) (a3 : Int32) (a4 : Int32) (a5 : Int32)  (M : Mm) (hB : RW M) (ra0 : a0 = 323) (h : fX16_sendAll_L86 fu k17 a0 a1 a3 a4 a5 M = some out) : Zq M out ∧ RW out := by
  unfold fX16_sendAll_L86 at h
  have hS : Zq M M := Zq.rf
  have z := zX16_sendAll_L87 fu k17 hk17 a0 a1 a3 a4 a5 (0 : Int32) M hB ra0 h
  exact ⟨hS.tr z.1, z.2⟩
theorem zX16_sendAll_L17 (fu : Nat) {out : Mm}   : ∀ (n : Nat) (a0 : Nat) (a1 : Option Nat) (a2 : Int32)  (M : Mm), RW M → a0 = 323 → fX16_sendAll_L17 fu  n a0 a1 a2 M = some out → Zq M out ∧ RW out := by
  intro n
  induction n with
  | zero =>
    intro a0 a1 a2 M hB ra0 h
    have h : (none : Option (Mm)) = some out := h
    cases h
  | succ n ih =>
    intro a0 a1 a2 M hB ra0 h
    rw [fX16_sendAll_L17] at h
    have hS : Zq M M := Zq.rf
    by_cases hc : a2 = 0
    · have h := (if_pos hc).symm.trans h
      obtain ⟨v1, ev1, h⟩ := bd h
      obtain ⟨q2, eq2, h⟩ := bd h
      obtain ⟨v4, M3, eM3, h⟩ := b2d h
      have w := zX12_left fu q2 v1 M hB  eM3
      have hS := hS.tr w.1
      have hB := w.2
      by_cases hc : v4 ≤ 0
      · have h := (if_pos hc).symm.trans h
        obtain rfl := Option.some.inj h
        exact ⟨hS, hB⟩
      · have h := (if_neg hc).symm.trans h
        obtain ⟨v5, ev5, h⟩ := bd h
        obtain ⟨v6, ev6, h⟩ := bd h
        by_cases hc : v5 = v6
        · have h := (if_pos hc).symm.trans h
          obtain ⟨v7, ev7, h⟩ := bd h
          by_cases hc : v7 = 0
          · have h := (if_pos hc).symm.trans h
            obtain ⟨v8, ev8, h⟩ := bd h
            by_cases hc : v8 = 0
            · have h := (if_pos hc).symm.trans h
              obtain ⟨q9, eq9, h⟩ := bd h
              have rq9 := z_rc (z_some ra0) eq9
              obtain ⟨M10, eM10, h⟩ := bd h
              have w := zX16_timerSet fu q9 a1 M3 hB rq9 eM10
              have hS := hS.tr w.1
              have hB := w.2
              obtain rfl := Option.some.inj h
              exact ⟨hS, hB⟩
            · have h := (if_neg hc).symm.trans h
              obtain rfl := Option.some.inj h
              exact ⟨hS, hB⟩
          · have h := (if_neg hc).symm.trans h
            obtain rfl := Option.some.inj h
            exact ⟨hS, hB⟩
        · have h := (if_neg hc).symm.trans h
          obtain rfl := Option.some.inj h
          exact ⟨hS, hB⟩
    · have h := (if_neg hc).symm.trans h
      obtain ⟨v11, ev11, h⟩ := bd h
      obtain ⟨v12, ev12, h⟩ := bd h
      obtain ⟨v13, ev13, h⟩ := bd h
      obtain ⟨v14, ev14, h⟩ := bd h
      obtain ⟨v16, M15, eM15, h⟩ := b2d h
      have w := zX16_dataWithin fu  a1 ((jmin v13 v14) - (v11 - v12)) M hB  eM15
      have hS := hS.tr w.1
      have hB := w.2
      obtain ⟨v17, ev17, h⟩ := bd h
      by_cases hc : v17 = 0
      · have h := (if_pos hc).symm.trans h
        have z := zX16_sendAll_L86 fu (fun b0 b1 b2 M => fX16_sendAll_L17 fu  n b0 b1 b2 M) ih a0 a1 (v11 - v12) ((jmin v13 v14) - (v11 - v12)) v16 M15 hB ra0 h
        exact ⟨hS.tr z.1, z.2⟩
      · have h := (if_neg hc).symm.trans h
        obtain ⟨v18, ev18, h⟩ := bd h
        obtain ⟨q19, eq19, h⟩ := bd h
        obtain ⟨v21, M20, eM20, h⟩ := b2d h
        have w := zX12_behind fu q19  M15 hB  eM20
        have hS := hS.tr w.1
        have hB := w.2
        by_cases hc : (v18 + v16) = v21
        · have h := (if_pos hc).symm.trans h
          by_cases hc : ((jmin v13 v14) - (v11 - v12)) ≤ v16
          · have h := (if_pos hc).symm.trans h
            have z := zX16_sendAll_L86 fu (fun b0 b1 b2 M => fX16_sendAll_L17 fu  n b0 b1 b2 M) ih a0 a1 (v11 - v12) ((jmin v13 v14) - (v11 - v12)) v16 M20 hB ra0 h
            exact ⟨hS.tr z.1, z.2⟩
          · have h := (if_neg hc).symm.trans h
            have z := zX16_sendAll_L87 fu (fun b0 b1 b2 M => fX16_sendAll_L17 fu  n b0 b1 b2 M) ih a0 a1 (v11 - v12) ((jmin v13 v14) - (v11 - v12)) v16 (1 : Int32) M20 hB ra0 h
            exact ⟨hS.tr z.1, z.2⟩
        · have h := (if_neg hc).symm.trans h
          have z := zX16_sendAll_L86 fu (fun b0 b1 b2 M => fX16_sendAll_L17 fu  n b0 b1 b2 M) ih a0 a1 (v11 - v12) ((jmin v13 v14) - (v11 - v12)) v16 M20 hB ra0 h
          exact ⟨hS.tr z.1, z.2⟩
theorem zX16_sendAll_L16 (fu : Nat)   (a0 : Nat) (a1 : Option Nat) (s0 : Int32) (M : Mm) {out : Mm} (hB : RW M) (ra0 : a0 = 323) (h : fX16_sendAll_L16 fu  a0 a1 s0 M = some out) : Zq M out ∧ RW out := by
  unfold fX16_sendAll_L16 at h
  have hS : Zq M M := Zq.rf
  have z := zX16_sendAll_L17 fu   fu a0 a1 s0 M hB ra0 h
  exact ⟨hS.tr z.1, z.2⟩
theorem zX16_sendAll (fu : Nat)   (a0 : Nat) (a1 : Option Nat)  (M : Mm) {out : Mm} (hB : RW M) (ra0 : a0 = 323) (h : fX16_sendAll fu  a0 a1 M = some out) : Zq M out ∧ RW out := by
  unfold fX16_sendAll at h
  have hS : Zq M M := Zq.rf
  obtain ⟨v1, ev1, h⟩ := bd h
  obtain ⟨q2, eq2, h⟩ := bd h
  obtain ⟨v4, M3, eM3, h⟩ := b2d h
  have w := zX12_left fu q2 v1 M hB  eM3
  have hS := hS.tr w.1
  have hB := w.2
  by_cases hc : v4 ≤ 0
  · have h := (if_pos hc).symm.trans h
    have z := zX16_sendAll_L16 fu   a0 a1 (0 : Int32) M3 hB ra0 h
    exact ⟨hS.tr z.1, z.2⟩
  · have h := (if_neg hc).symm.trans h
    have z := zX16_sendAll_L16 fu   a0 a1 (1 : Int32) M3 hB ra0 h
    exact ⟨hS.tr z.1, z.2⟩
theorem zX16_segment_L128 (fu : Nat)   (a0 : Nat) (a1 : Option Nat)  (M : Mm) {out : Mm} (hB : RW M) (ra0 : a0 = 323) (h : fX16_segment_L128 fu  a0 a1 M = some out) : Zq M out ∧ RW out := by
  unfold fX16_segment_L128 at h
  have hS : Zq M M := Zq.rf
  obtain ⟨q1, eq1, h⟩ := bd h
  have rq1 := z_rc (z_some ra0) eq1
  obtain ⟨M2, eM2, h⟩ := bd h
  have w := zX16_requests fu q1 a1 M hB rq1 eM2
  have hS := hS.tr w.1
  have hB := w.2
  obtain ⟨q3, eq3, h⟩ := bd h
  have rq3 := z_rc (z_some ra0) eq3
  obtain ⟨M4, eM4, h⟩ := bd h
  have w := zX16_sendAll fu q3 a1 M2 hB rq3 eM4
  have hS := hS.tr w.1
  have hB := w.2
  obtain ⟨v5, ev5, h⟩ := bd h
  by_cases hc : v5 = 0
  · have h := (if_pos hc).symm.trans h
    obtain rfl := Option.some.inj h
    exact ⟨hS, hB⟩
  · have h := (if_neg hc).symm.trans h
    obtain ⟨q6, eq6, h⟩ := bd h
    have rq6 := z_rc (z_some ra0) eq6
    obtain ⟨M7, eM7, h⟩ := bd h
    have w := zX16_acknowledge fu q6 a1 M4 hB rq6 eM7
    have hS := hS.tr w.1
    have hB := w.2
    obtain rfl := Option.some.inj h
    exact ⟨hS, hB⟩
theorem zX16_segment (fu : Nat)   (a0 : Nat) (a1 : Option Nat)  (M : Mm) {out : Mm} (hB : RW M) (ra0 : a0 = 323) (h : fX16_segment fu  a0 a1 M = some out) : Zq M out ∧ RW out := by
  unfold fX16_segment at h
  have hS : Zq M M := Zq.rf
  obtain ⟨q1, eq1, h⟩ := bd h
  have rq1 := z_rc (z_some ra0) eq1
  obtain ⟨v3, M2, eM2, h⟩ := b2d h
  have w := zX16_isAcceptable fu q1 a1 M hB rq1 eM2
  have hS := hS.tr w.1
  have hB := w.2
  by_cases hc : v3 = 0
  · have h := (if_pos hc).symm.trans h
    obtain ⟨q30, eq30, h⟩ := bd h
    have rq30 := z_rc (z_some ra0) eq30
    obtain ⟨v32, M31, eM31, h⟩ := b2d h
    have w := zX16_is fu q30 (4 : Int32) M2 hB rq30 eM31
    have hS := hS.tr w.1
    have hB := w.2
    by_cases hc : v32 = 0
    · have h := (if_pos hc).symm.trans h
      obtain ⟨q33, eq33, h⟩ := bd h
      have rq33 := z_rc (z_some ra0) eq33
      obtain ⟨M34, eM34, h⟩ := bd h
      have w := zX16_acknowledge fu q33 a1 M31 hB rq33 eM34
      have hS := hS.tr w.1
      have hB := w.2
      obtain ⟨v35, ev35, h⟩ := bd h
      by_cases hc : v35 = (6 : Int32)
      · have h := (if_pos hc).symm.trans h
        obtain ⟨q36, eq36, h⟩ := bd h
        have rq36 := z_rc (z_some ra0) eq36
        obtain ⟨v38, M37, eM37, h⟩ := b2d h
        have w := zX16_is fu q36 (1 : Int32) M34 hB rq36 eM37
        have hS := hS.tr w.1
        have hB := w.2
        by_cases hc : v38 = 0
        · have h := (if_pos hc).symm.trans h
          obtain rfl := Option.some.inj h
          exact ⟨hS, hB⟩
        · have h := (if_neg hc).symm.trans h
          obtain ⟨v39, ev39, h⟩ := bd h
          obtain ⟨M40, eM40, h⟩ := bd h
          have w := z_pF hB eM40 (by decide)
          have hS := hS.tr w.1
          have hB := w.2
          obtain rfl := Option.some.inj h
          exact ⟨hS, hB⟩
      · have h := (if_neg hc).symm.trans h
        obtain rfl := Option.some.inj h
        exact ⟨hS, hB⟩
    · have h := (if_neg hc).symm.trans h
      obtain rfl := Option.some.inj h
      exact ⟨hS, hB⟩
  · have h := (if_neg hc).symm.trans h
    obtain ⟨q4, eq4, h⟩ := bd h
    have rq4 := z_rc (z_some ra0) eq4
    obtain ⟨v6, M5, eM5, h⟩ := b2d h
    have w := zX16_is fu q4 (4 : Int32) M2 hB rq4 eM5
    have hS := hS.tr w.1
    have hB := w.2
    by_cases hc : v6 = 0
    · have h := (if_pos hc).symm.trans h
      obtain ⟨q7, eq7, h⟩ := bd h
      have rq7 := z_rc (z_some ra0) eq7
      obtain ⟨v9, M8, eM8, h⟩ := b2d h
      have w := zX16_is fu q7 (2 : Int32) M5 hB rq7 eM8
      have hS := hS.tr w.1
      have hB := w.2
      by_cases hc : v9 = 0
      · have h := (if_pos hc).symm.trans h
        obtain ⟨q10, eq10, h⟩ := bd h
        have rq10 := z_rc (z_some ra0) eq10
        obtain ⟨v12, M11, eM11, h⟩ := b2d h
        have w := zX16_is fu q10 (16 : Int32) M8 hB rq10 eM11
        have hS := hS.tr w.1
        have hB := w.2
        by_cases hc : v12 = 0
        · have h := (if_pos hc).symm.trans h
          obtain rfl := Option.some.inj h
          exact ⟨hS, hB⟩
        · have h := (if_neg hc).symm.trans h
          obtain ⟨q13, eq13, h⟩ := bd h
          have rq13 := z_rc (z_some ra0) eq13
          obtain ⟨v15, M14, eM14, h⟩ := b2d h
          have w := zX16_acknowledgement fu q13 a1 M11 hB rq13 eM14
          have hS := hS.tr w.1
          have hB := w.2
          by_cases hc : v15 = 0
          · have h := (if_pos hc).symm.trans h
            obtain rfl := Option.some.inj h
            exact ⟨hS, hB⟩
          · have h := (if_neg hc).symm.trans h
            obtain ⟨q16, eq16, h⟩ := bd h
            have rq16 := z_rc (z_some ra0) eq16
            obtain ⟨M17, eM17, h⟩ := bd h
            have w := zX16_arrived fu q16 a1 M14 hB rq16 eM17
            have hS := hS.tr w.1
            have hB := w.2
            obtain ⟨v18, ev18, h⟩ := bd h
            by_cases hc : v18 = (6 : Int32)
            · have h := (if_pos hc).symm.trans h
              obtain ⟨q19, eq19, h⟩ := bd h
              have rq19 := z_rc (z_some ra0) eq19
              obtain ⟨v21, M20, eM20, h⟩ := b2d h
              have w := zX16_is fu q19 (1 : Int32) M17 hB rq19 eM20
              have hS := hS.tr w.1
              have hB := w.2
              by_cases hc : v21 = 0
              · have h := (if_pos hc).symm.trans h
                have z := zX16_segment_L128 fu   a0 a1 M20 hB ra0 h
                exact ⟨hS.tr z.1, z.2⟩
              · have h := (if_neg hc).symm.trans h
                obtain ⟨v22, ev22, h⟩ := bd h
                obtain ⟨M23, eM23, h⟩ := bd h
                have w := z_pF hB eM23 (by decide)
                have hS := hS.tr w.1
                have hB := w.2
                have z := zX16_segment_L128 fu   a0 a1 M23 hB ra0 h
                exact ⟨hS.tr z.1, z.2⟩
            · have h := (if_neg hc).symm.trans h
              have z := zX16_segment_L128 fu   a0 a1 M17 hB ra0 h
              exact ⟨hS.tr z.1, z.2⟩
      · have h := (if_neg hc).symm.trans h
        obtain ⟨q24, eq24, h⟩ := bd h
        have rq24 := z_rc (z_some ra0) eq24
        obtain ⟨M25, eM25, h⟩ := bd h
        have w := zX16_reset fu q24  M8 hB rq24 eM25
        have hS := hS.tr w.1
        have hB := w.2
        obtain ⟨q26, eq26, h⟩ := bd h
        have rq26 := z_rc (z_some ra0) eq26
        obtain ⟨M27, eM27, h⟩ := bd h
        have w := zX16_gone fu q26 a1 M25 hB rq26 eM27
        have hS := hS.tr w.1
        have hB := w.2
        obtain rfl := Option.some.inj h
        exact ⟨hS, hB⟩
    · have h := (if_neg hc).symm.trans h
      obtain ⟨q28, eq28, h⟩ := bd h
      have rq28 := z_rc (z_some ra0) eq28
      obtain ⟨M29, eM29, h⟩ := bd h
      have w := zX16_gone fu q28 a1 M5 hB rq28 eM29
      have hS := hS.tr w.1
      have hB := w.2
      obtain rfl := Option.some.inj h
      exact ⟨hS, hB⟩
theorem zX16_isIdle (fu : Nat)   (a0 : Option Nat)  (M : Mm) {out : Int32 × Mm} (hB : RW M)  (h : fX16_isIdle fu  a0 M = some out) : Zq M out.2 ∧ RW out.2 := by
  unfold fX16_isIdle at h
  have hS : Zq M M := Zq.rf
  obtain ⟨v1, ev1, h⟩ := bd h
  by_cases hc : v1 = (2 : Int32)
  · have h := (if_pos hc).symm.trans h
    obtain ⟨v2, ev2, h⟩ := bd h
    by_cases hc : v2 = 0
    · have h := (if_pos hc).symm.trans h
      obtain ⟨v3, ev3, h⟩ := bd h
      obtain ⟨v4, ev4, h⟩ := bd h
      by_cases hc : v3 = v4
      · have h := (if_pos hc).symm.trans h
        obtain ⟨v5, ev5, h⟩ := bd h
        obtain ⟨q6, eq6, h⟩ := bd h
        obtain ⟨v8, M7, eM7, h⟩ := b2d h
        have w := zX12_left fu q6 v5 M hB  eM7
        have hS := hS.tr w.1
        have hB := w.2
        by_cases hc : v8 = 0
        · have h := (if_pos hc).symm.trans h
          obtain ⟨hz, rfl⟩ := rN_some h
          exact ⟨hS, hB⟩
        · have h := (if_neg hc).symm.trans h
          obtain ⟨hz, rfl⟩ := rN_some h
          exact ⟨hS, hB⟩
      · have h := (if_neg hc).symm.trans h
        obtain ⟨hz, rfl⟩ := rN_some h
        exact ⟨hS, hB⟩
    · have h := (if_neg hc).symm.trans h
      obtain ⟨hz, rfl⟩ := rN_some h
      exact ⟨hS, hB⟩
  · have h := (if_neg hc).symm.trans h
    obtain ⟨hz, rfl⟩ := rN_some h
    exact ⟨hS, hB⟩
theorem zX16_life_L17 (fu : Nat)   (a0 : Option Nat)  (M : Mm) {out : Int64 × Mm} (hB : RW M)  (h : fX16_life_L17 fu  a0 M = some out) : Zq M out.2 ∧ RW out.2 := by
  unfold fX16_life_L17 at h
  have hS : Zq M M := Zq.rf
  obtain ⟨v1, ev1, h⟩ := bd h
  obtain rfl := Option.some.inj h
  exact ⟨hS, hB⟩
theorem zX16_life (fu : Nat)   (a0 : Option Nat)  (M : Mm) {out : Int64 × Mm} (hB : RW M)  (h : fX16_life fu  a0 M = some out) : Zq M out.2 ∧ RW out.2 := by
  unfold fX16_life at h
  have hS : Zq M M := Zq.rf
  obtain ⟨v1, ev1, h⟩ := bd h
  by_cases hc : v1 = (6 : Int32)
  · have h := (if_pos hc).symm.trans h
    have z := zX16_life_L17 fu   a0 M hB  h
    exact ⟨hS.tr z.1, z.2⟩
  · have h := (if_neg hc).symm.trans h
    obtain ⟨v2, ev2, h⟩ := bd h
    by_cases hc : v2 = (4 : Int32)
    · have h := (if_pos hc).symm.trans h
      have z := zX16_life_L17 fu   a0 M hB  h
      exact ⟨hS.tr z.1, z.2⟩
    · have h := (if_neg hc).symm.trans h
      obtain ⟨v4, M3, eM3, h⟩ := b2d h
      have w := zX16_isIdle fu  a0 M hB  eM3
      have hS := hS.tr w.1
      have hB := w.2
      by_cases hc : v4 = 0
      · have h := (if_pos hc).symm.trans h
        obtain rfl := Option.some.inj h
        exact ⟨hS, hB⟩
      · have h := (if_neg hc).symm.trans h
        obtain ⟨v5, ev5, h⟩ := bd h
        obtain rfl := Option.some.inj h
        exact ⟨hS, hB⟩
theorem zX16_lifeEnds (fu : Nat)   (a0 : Nat) (a1 : Option Nat)  (M : Mm) {out : Mm} (hB : RW M) (ra0 : a0 = 323) (h : fX16_lifeEnds fu  a0 a1 M = some out) : Zq M out ∧ RW out := by
  unfold fX16_lifeEnds at h
  have hS : Zq M M := Zq.rf
  obtain ⟨v1, ev1, h⟩ := bd h
  by_cases hc : v1 = (2 : Int32)
  · have h := (if_pos hc).symm.trans h
    obtain ⟨M4, eM4, h⟩ := bd h
    have w := z_pZ hB eM4 (by decide)
    have hS := hS.tr w.1
    have hB := w.2
    obtain ⟨q5, eq5, h⟩ := bd h
    have rq5 := z_rc (z_some ra0) eq5
    obtain ⟨M6, eM6, h⟩ := bd h
    have w := zX16_sendAll fu q5 a1 M4 hB rq5 eM6
    have hS := hS.tr w.1
    have hB := w.2
    obtain rfl := Option.some.inj h
    exact ⟨hS, hB⟩
  · have h := (if_neg hc).symm.trans h
    obtain ⟨q2, eq2, h⟩ := bd h
    have rq2 := z_rc (z_some ra0) eq2
    obtain ⟨M3, eM3, h⟩ := bd h
    have w := zX16_gone fu q2 a1 M hB rq2 eM3
    have hS := hS.tr w.1
    have hB := w.2
    obtain rfl := Option.some.inj h
    exact ⟨hS, hB⟩
theorem zX16_askDue (fu : Nat)   (a0 : Option Nat)  (M : Mm) {out : Int64 × Mm} (hB : RW M)  (h : fX16_askDue fu  a0 M = some out) : Zq M out.2 ∧ RW out.2 := by
  unfold fX16_askDue at h
  have hS : Zq M M := Zq.rf
  obtain ⟨v1, ev1, h⟩ := bd h
  obtain ⟨v2, ev2, h⟩ := bd h
  obtain rfl := Option.some.inj h
  exact ⟨hS, hB⟩
theorem zX16_refused (fu : Nat)   (a0 : Nat) (a1 : Int32)  (M : Mm) {out : Int32 × Mm} (hB : RW M) (ra0 : a0 = 323) (h : fX16_refused fu  a0 a1 M = some out) : Zq M out.2 ∧ RW out.2 := by
  unfold fX16_refused at h
  have hS : Zq M M := Zq.rf
  obtain ⟨v1, ev1, h⟩ := bd h
  by_cases hc : v1 = 0
  · have h := (if_pos hc).symm.trans h
    obtain rfl := Option.some.inj h
    exact ⟨hS, hB⟩
  · have h := (if_neg hc).symm.trans h
    obtain ⟨v2, ev2, h⟩ := bd h
    by_cases hc : a1 < v2
    · have h := (if_pos hc).symm.trans h
      obtain rfl := Option.some.inj h
      exact ⟨hS, hB⟩
    · have h := (if_neg hc).symm.trans h
      by_cases hc : (2000000000 : Int32) < a1
      · have h := (if_pos hc).symm.trans h
        obtain rfl := Option.some.inj h
        exact ⟨hS, hB⟩
      · have h := (if_neg hc).symm.trans h
        obtain ⟨v3, ev3, h⟩ := bd h
        by_cases hc : (a1 - v3) ≤ (600000 : Int32)
        · have h := (if_pos hc).symm.trans h
          obtain rfl := Option.some.inj h
          exact ⟨hS, hB⟩
        · have h := (if_neg hc).symm.trans h
          obtain rfl := Option.some.inj h
          exact ⟨hS, hB⟩
theorem zX16_now (fu : Nat)   (a0 : Nat)  (M : Mm) {out : Int32 × Mm} (hB : RW M) (ra0 : a0 = 323) (h : fX16_now fu  a0 M = some out) : Zq M out.2 ∧ RW out.2 := by
  unfold fX16_now at h
  have hS : Zq M M := Zq.rf
  obtain ⟨v1, ev1, h⟩ := bd h
  by_cases hc : v1 = 0
  · have h := (if_pos hc).symm.trans h
    obtain rfl := Option.some.inj h
    exact ⟨hS, hB⟩
  · have h := (if_neg hc).symm.trans h
    obtain ⟨v2, ev2, h⟩ := bd h
    obtain rfl := Option.some.inj h
    exact ⟨hS, hB⟩
theorem zX16_sent (fu : Nat)   (a0 : Nat)  (M : Mm) {out : Int32 × Mm} (hB : RW M) (ra0 : a0 = 323) (h : fX16_sent fu  a0 M = some out) : Zq M out.2 ∧ RW out.2 := by
  unfold fX16_sent at h
  have hS : Zq M M := Zq.rf
  obtain ⟨v1, ev1, h⟩ := bd h
  by_cases hc : v1 = 0
  · have h := (if_pos hc).symm.trans h
    obtain rfl := Option.some.inj h
    exact ⟨hS, hB⟩
  · have h := (if_neg hc).symm.trans h
    obtain ⟨v2, ev2, h⟩ := bd h
    obtain rfl := Option.some.inj h
    exact ⟨hS, hB⟩
theorem zX16_slot (fu : Nat)   (a0 : Nat) (a1 : Int32)  (M : Mm) {out : Int32 × Mm} (hB : RW M) (ra0 : a0 = 323) (h : fX16_slot fu  a0 a1 M = some out) : Zq M out.2 ∧ RW out.2 := by
  unfold fX16_slot at h
  have hS : Zq M M := Zq.rf
  obtain ⟨v1, ev1, h⟩ := bd h
  by_cases hc : v1 = 0
  · have h := (if_pos hc).symm.trans h
    obtain rfl := Option.some.inj h
    exact ⟨hS, hB⟩
  · have h := (if_neg hc).symm.trans h
    by_cases hc : a1 < 0
    · have h := (if_pos hc).symm.trans h
      obtain rfl := Option.some.inj h
      exact ⟨hS, hB⟩
    · have h := (if_neg hc).symm.trans h
      by_cases hc : (32 : Int32) ≤ a1
      · have h := (if_pos hc).symm.trans h
        obtain rfl := Option.some.inj h
        exact ⟨hS, hB⟩
      · have h := (if_neg hc).symm.trans h
        obtain ⟨v2, ev2, h⟩ := bd h
        by_cases hc : v2 ≤ a1
        · have h := (if_pos hc).symm.trans h
          obtain rfl := Option.some.inj h
          exact ⟨hS, hB⟩
        · have h := (if_neg hc).symm.trans h
          obtain ⟨v3, ev3, h⟩ := bd h
          obtain rfl := Option.some.inj h
          exact ⟨hS, hB⟩
theorem zX16_length (fu : Nat)   (a0 : Nat) (a1 : Int32)  (M : Mm) {out : Int32 × Mm} (hB : RW M) (ra0 : a0 = 323) (h : fX16_length fu  a0 a1 M = some out) : Zq M out.2 ∧ RW out.2 := by
  unfold fX16_length at h
  have hS : Zq M M := Zq.rf
  obtain ⟨q1, eq1, h⟩ := bd h
  have rq1 := z_rc (z_some ra0) eq1
  obtain ⟨v3, M2, eM2, h⟩ := b2d h
  have w := zX16_slot fu q1 a1 M hB rq1 eM2
  have hS := hS.tr w.1
  have hB := w.2
  by_cases hc : 0 ≤ v3
  · have h := (if_pos hc).symm.trans h
    obtain ⟨v4, ev4, h⟩ := bd h
    obtain ⟨q5, eq5, h⟩ := bd h
    have rq5 := z_rc (z_some ra0) eq5
    obtain ⟨v7, M6, eM6, h⟩ := b2d h
    have w := zX16_slot fu q5 a1 M2 hB rq5 eM6
    have hS := hS.tr w.1
    have hB := w.2
    obtain ⟨v8, ev8, h⟩ := bd h
    obtain rfl := Option.some.inj h
    exact ⟨hS, hB⟩
  · have h := (if_neg hc).symm.trans h
    obtain rfl := Option.some.inj h
    exact ⟨hS, hB⟩
theorem zX16_at (fu : Nat)   (a0 : Nat) (a1 : Int32) (a2 : Int32)  (M : Mm) {out : Int32 × Mm} (hB : RW M) (ra0 : a0 = 323) (h : fX16_at fu  a0 a1 a2 M = some out) : Zq M out.2 ∧ RW out.2 := by
  unfold fX16_at at h
  have hS : Zq M M := Zq.rf
  obtain ⟨q1, eq1, h⟩ := bd h
  have rq1 := z_rc (z_some ra0) eq1
  obtain ⟨v3, M2, eM2, h⟩ := b2d h
  have w := zX16_slot fu q1 a1 M hB rq1 eM2
  have hS := hS.tr w.1
  have hB := w.2
  by_cases hc : v3 < 0
  · have h := (if_pos hc).symm.trans h
    obtain rfl := Option.some.inj h
    exact ⟨hS, hB⟩
  · have h := (if_neg hc).symm.trans h
    by_cases hc : a2 < 0
    · have h := (if_pos hc).symm.trans h
      obtain rfl := Option.some.inj h
      exact ⟨hS, hB⟩
    · have h := (if_neg hc).symm.trans h
      obtain ⟨v4, ev4, h⟩ := bd h
      obtain ⟨v5, ev5, h⟩ := bd h
      by_cases hc : a2 < v5
      · have h := (if_pos hc).symm.trans h
        obtain ⟨v6, ev6, h⟩ := bd h
        obtain ⟨v7, ev7, h⟩ := bd h
        obtain rfl := Option.some.inj h
        exact ⟨hS, hB⟩
      · have h := (if_neg hc).symm.trans h
        obtain rfl := Option.some.inj h
        exact ⟨hS, hB⟩
theorem zX16_time (fu : Nat)   (a0 : Nat) (a1 : Int32)  (M : Mm) {out : Int32 × Mm} (hB : RW M) (ra0 : a0 = 323) (h : fX16_time fu  a0 a1 M = some out) : Zq M out.2 ∧ RW out.2 := by
  unfold fX16_time at h
  have hS : Zq M M := Zq.rf
  obtain ⟨q1, eq1, h⟩ := bd h
  have rq1 := z_rc (z_some ra0) eq1
  obtain ⟨v3, M2, eM2, h⟩ := b2d h
  have w := zX16_slot fu q1 a1 M hB rq1 eM2
  have hS := hS.tr w.1
  have hB := w.2
  by_cases hc : 0 ≤ v3
  · have h := (if_pos hc).symm.trans h
    obtain ⟨v4, ev4, h⟩ := bd h
    obtain ⟨q5, eq5, h⟩ := bd h
    have rq5 := z_rc (z_some ra0) eq5
    obtain ⟨v7, M6, eM6, h⟩ := b2d h
    have w := zX16_slot fu q5 a1 M2 hB rq5 eM6
    have hS := hS.tr w.1
    have hB := w.2
    obtain ⟨v8, ev8, h⟩ := bd h
    obtain rfl := Option.some.inj h
    exact ⟨hS, hB⟩
  · have h := (if_neg hc).symm.trans h
    obtain rfl := Option.some.inj h
    exact ⟨hS, hB⟩
theorem zX16_state (fu : Nat)   (a0 : Nat) (a1 : Int32)  (M : Mm) {out : Int32 × Mm} (hB : RW M) (ra0 : a0 = 323) (h : fX16_state fu  a0 a1 M = some out) : Zq M out.2 ∧ RW out.2 := by
  unfold fX16_state at h
  have hS : Zq M M := Zq.rf
  by_cases hc : a1 < 0
  · have h := (if_pos hc).symm.trans h
    obtain rfl := Option.some.inj h
    exact ⟨hS, hB⟩
  · have h := (if_neg hc).symm.trans h
    by_cases hc : a1 < (16 : Int32)
    · have h := (if_pos hc).symm.trans h
      obtain ⟨v1, ev1, h⟩ := bd h
      by_cases hc : v1 = 0
      · have h := (if_pos hc).symm.trans h
        obtain rfl := Option.some.inj h
        exact ⟨hS, hB⟩
      · have h := (if_neg hc).symm.trans h
        obtain ⟨v2, ev2, h⟩ := bd h
        obtain ⟨v3, ev3, h⟩ := bd h
        obtain ⟨v4, ev4, h⟩ := bd h
        obtain rfl := Option.some.inj h
        exact ⟨hS, hB⟩
    · have h := (if_neg hc).symm.trans h
      obtain rfl := Option.some.inj h
      exact ⟨hS, hB⟩
theorem zX16_look (fu : Nat)   (a0 : Nat) (a1 : Int32) (a2 : Int32)  (M : Mm) {out : Int64 × Mm} (hB : RW M) (ra0 : a0 = 323) (h : fX16_look fu  a0 a1 a2 M = some out) : Zq M out.2 ∧ RW out.2 := by
  unfold fX16_look at h
  have hS : Zq M M := Zq.rf
  obtain ⟨q1, eq1, h⟩ := bd h
  have rq1 := z_rc (z_some ra0) eq1
  obtain ⟨v3, M2, eM2, h⟩ := b2d h
  have w := zX16_state fu q1 a1 M hB rq1 eM2
  have hS := hS.tr w.1
  have hB := w.2
  by_cases hc : 0 < v3
  · have h := (if_pos hc).symm.trans h
    obtain ⟨v4, ev4, h⟩ := bd h
    obtain ⟨v5, ev5, h⟩ := bd h
    by_cases hc0 : a2 = (0 : Int32)
    · have h := (if_pos hc0).symm.trans h
      obtain ⟨v6, ev6, h⟩ := bd h
      obtain rfl := Option.some.inj h
      exact ⟨hS, hB⟩
    have h := (if_neg hc0).symm.trans h
    by_cases hc1 : a2 = (1 : Int32)
    · have h := (if_pos hc1).symm.trans h
      obtain ⟨v7, ev7, h⟩ := bd h
      obtain rfl := Option.some.inj h
      exact ⟨hS, hB⟩
    have h := (if_neg hc1).symm.trans h
    by_cases hc2 : a2 = (2 : Int32)
    · have h := (if_pos hc2).symm.trans h
      obtain ⟨v8, ev8, h⟩ := bd h
      obtain rfl := Option.some.inj h
      exact ⟨hS, hB⟩
    have h := (if_neg hc2).symm.trans h
    by_cases hc3 : a2 = (3 : Int32)
    · have h := (if_pos hc3).symm.trans h
      obtain ⟨v9, ev9, h⟩ := bd h
      obtain rfl := Option.some.inj h
      exact ⟨hS, hB⟩
    have h := (if_neg hc3).symm.trans h
    by_cases hc4 : a2 = (4 : Int32)
    · have h := (if_pos hc4).symm.trans h
      obtain ⟨v10, ev10, h⟩ := bd h
      obtain rfl := Option.some.inj h
      exact ⟨hS, hB⟩
    have h := (if_neg hc4).symm.trans h
    by_cases hc5 : a2 = (5 : Int32)
    · have h := (if_pos hc5).symm.trans h
      obtain ⟨v11, ev11, h⟩ := bd h
      obtain rfl := Option.some.inj h
      exact ⟨hS, hB⟩
    have h := (if_neg hc5).symm.trans h
    by_cases hc6 : a2 = (6 : Int32)
    · have h := (if_pos hc6).symm.trans h
      obtain ⟨v12, ev12, h⟩ := bd h
      obtain rfl := Option.some.inj h
      exact ⟨hS, hB⟩
    have h := (if_neg hc6).symm.trans h
    by_cases hc7 : a2 = (7 : Int32)
    · have h := (if_pos hc7).symm.trans h
      obtain ⟨v13, ev13, h⟩ := bd h
      obtain rfl := Option.some.inj h
      exact ⟨hS, hB⟩
    have h := (if_neg hc7).symm.trans h
    by_cases hc8 : a2 = (8 : Int32)
    · have h := (if_pos hc8).symm.trans h
      obtain ⟨v14, ev14, h⟩ := bd h
      obtain rfl := Option.some.inj h
      exact ⟨hS, hB⟩
    have h := (if_neg hc8).symm.trans h
    by_cases hc9 : a2 = (9 : Int32)
    · have h := (if_pos hc9).symm.trans h
      obtain ⟨v15, ev15, h⟩ := bd h
      obtain rfl := Option.some.inj h
      exact ⟨hS, hB⟩
    have h := (if_neg hc9).symm.trans h
    by_cases hc10 : a2 = (10 : Int32)
    · have h := (if_pos hc10).symm.trans h
      obtain ⟨v16, ev16, h⟩ := bd h
      obtain rfl := Option.some.inj h
      exact ⟨hS, hB⟩
    have h := (if_neg hc10).symm.trans h
    by_cases hc11 : a2 = (11 : Int32)
    · have h := (if_pos hc11).symm.trans h
      obtain ⟨q17, eq17, h⟩ := bd h
      obtain ⟨v19, M18, eM18, h⟩ := b2d h
      have w := zX12_held fu q17  M2 hB  eM18
      have hS := hS.tr w.1
      have hB := w.2
      obtain rfl := Option.some.inj h
      exact ⟨hS, hB⟩
    have h := (if_neg hc11).symm.trans h
    by_cases hc12 : a2 = (12 : Int32)
    · have h := (if_pos hc12).symm.trans h
      obtain ⟨v20, ev20, h⟩ := bd h
      by_cases hc : v20 = (1 : Int32)
      · have h := (if_pos hc).symm.trans h
        obtain rfl := Option.some.inj h
        exact ⟨hS, hB⟩
      · have h := (if_neg hc).symm.trans h
        obtain ⟨v21, ev21, h⟩ := bd h
        obtain ⟨q22, eq22, h⟩ := bd h
        obtain ⟨v24, M23, eM23, h⟩ := b2d h
        have w := zX12_left fu q22 v21 M2 hB  eM23
        have hS := hS.tr w.1
        have hB := w.2
        obtain rfl := Option.some.inj h
        exact ⟨hS, hB⟩
    have h := (if_neg hc12).symm.trans h
    by_cases hc13 : a2 = (13 : Int32)
    · have h := (if_pos hc13).symm.trans h
      obtain ⟨v25, ev25, h⟩ := bd h
      obtain rfl := Option.some.inj h
      exact ⟨hS, hB⟩
    have h := (if_neg hc13).symm.trans h
    by_cases hc14 : a2 = (14 : Int32)
    · have h := (if_pos hc14).symm.trans h
      obtain ⟨v26, ev26, h⟩ := bd h
      obtain rfl := Option.some.inj h
      exact ⟨hS, hB⟩
    have h := (if_neg hc14).symm.trans h
    obtain rfl := Option.some.inj h
    exact ⟨hS, hB⟩
  · have h := (if_neg hc).symm.trans h
    obtain rfl := Option.some.inj h
    exact ⟨hS, hB⟩
theorem zX16_cached (fu : Nat)   (a0 : Nat) (a1 : Int32)  (M : Mm) {out : Int32 × Mm} (hB : RW M) (ra0 : a0 = 323) (h : fX16_cached fu  a0 a1 M = some out) : Zq M out.2 ∧ RW out.2 := by
  unfold fX16_cached at h
  have hS : Zq M M := Zq.rf
  obtain ⟨v1, ev1, h⟩ := bd h
  by_cases hc : v1 = 0
  · have h := (if_pos hc).symm.trans h
    obtain ⟨hz, rfl⟩ := rN_some h
    exact ⟨hS, hB⟩
  · have h := (if_neg hc).symm.trans h
    obtain ⟨q2, eq2, h⟩ := bd h
    have rq2 := z_rc (z_some ra0) eq2
    obtain ⟨v4, M3, eM3, h⟩ := b2d h
    have w := zX16_counting fu q2 a1 M hB rq2 eM3
    have hS := hS.tr w.1
    have hB := w.2
    by_cases hc : v4 = none
    · have h := (if_pos hc).symm.trans h
      obtain ⟨hz, rfl⟩ := rN_some h
      exact ⟨hS, hB⟩
    · have h := (if_neg hc).symm.trans h
      obtain ⟨hz, rfl⟩ := rN_some h
      exact ⟨hS, hB⟩
theorem zX16_waiting_L32 (fu : Nat) {out : Int32 × Mm} (k4 : Nat → Int32 → Int32 → Mm → Option (Int32 × Mm)) (hk4 : ∀ (b0 : Nat) (b1 : Int32) (b2 : Int32)  (M : Mm), RW M → b0 = 323 → k4 b0 b1 b2 M = some out → Zq M out.2 ∧ RW out.2) (a0 : Nat) (a1 : Int32) (a2 : Int32)  (M : Mm) (hB : RW M) (ra0 : a0 = 323) (h : fX16_waiting_L32 fu k4 a0 a1 a2 M = some out) : Zq M out.2 ∧ RW out.2 := by
  unfold fX16_waiting_L32 at h
  have hS : Zq M M := Zq.rf
  have z := hk4 a0 a1 (a2 + (1 : Int32)) M hB ra0 h
  exact ⟨hS.tr z.1, z.2⟩
theorem zX16_waiting_L4 (fu : Nat) {out : Int32 × Mm}   : ∀ (n : Nat) (a0 : Nat) (a1 : Int32) (a2 : Int32)  (M : Mm), RW M → a0 = 323 → fX16_waiting_L4 fu  n a0 a1 a2 M = some out → Zq M out.2 ∧ RW out.2 := by
  intro n
  induction n with
  | zero =>
    intro a0 a1 a2 M hB ra0 h
    have h : (none : Option (Int32 × Mm)) = some out := h
    cases h
  | succ n ih =>
    intro a0 a1 a2 M hB ra0 h
    rw [fX16_waiting_L4] at h
    have hS : Zq M M := Zq.rf
    by_cases hc : (8 : Int32) ≤ a2
    · have h := (if_pos hc).symm.trans h
      obtain rfl := Option.some.inj h
      exact ⟨hS, hB⟩
    · have h := (if_neg hc).symm.trans h
      obtain ⟨v1, ev1, h⟩ := bd h
      by_cases hc : v1 = 0
      · have h := (if_pos hc).symm.trans h
        obtain rfl := Option.some.inj h
        exact ⟨hS, hB⟩
      · have h := (if_neg hc).symm.trans h
        obtain ⟨v2, ev2, h⟩ := bd h
        obtain ⟨v3, ev3, h⟩ := bd h
        obtain ⟨v4, ev4, h⟩ := bd h
        by_cases hc : v4 = 0
        · have h := (if_pos hc).symm.trans h
          have z := zX16_waiting_L32 fu (fun b0 b1 b2 M => fX16_waiting_L4 fu  n b0 b1 b2 M) ih a0 a1 a2 M hB ra0 h
          exact ⟨hS.tr z.1, z.2⟩
        · have h := (if_neg hc).symm.trans h
          have z := zX16_waiting_L32 fu (fun b0 b1 b2 M => fX16_waiting_L4 fu  n b0 b1 b2 M) ih a0 (a1 + (1 : Int32)) a2 M hB ra0 h
          exact ⟨hS.tr z.1, z.2⟩
theorem zX16_waiting (fu : Nat)   (a0 : Nat)  (M : Mm) {out : Int32 × Mm} (hB : RW M) (ra0 : a0 = 323) (h : fX16_waiting fu  a0 M = some out) : Zq M out.2 ∧ RW out.2 := by
  unfold fX16_waiting at h
  have hS : Zq M M := Zq.rf
  have z := zX16_waiting_L4 fu   fu a0 (0 : Int32) (0 : Int32) M hB ra0 h
  exact ⟨hS.tr z.1, z.2⟩
theorem zX16_counted (fu : Nat)   (a0 : Nat) (a1 : Int32)  (M : Mm) {out : Int32 × Mm} (hB : RW M) (ra0 : a0 = 323) (h : fX16_counted fu  a0 a1 M = some out) : Zq M out.2 ∧ RW out.2 := by
  unfold fX16_counted at h
  have hS : Zq M M := Zq.rf
  obtain ⟨v1, ev1, h⟩ := bd h
  by_cases hc : v1 = 0
  · have h := (if_pos hc).symm.trans h
    obtain rfl := Option.some.inj h
    exact ⟨hS, hB⟩
  · have h := (if_neg hc).symm.trans h
    by_cases hc : a1 < 0
    · have h := (if_pos hc).symm.trans h
      obtain rfl := Option.some.inj h
      exact ⟨hS, hB⟩
    · have h := (if_neg hc).symm.trans h
      by_cases hc : (8 : Int32) ≤ a1
      · have h := (if_pos hc).symm.trans h
        obtain rfl := Option.some.inj h
        exact ⟨hS, hB⟩
      · have h := (if_neg hc).symm.trans h
        obtain ⟨v2, ev2, h⟩ := bd h
        obtain ⟨v3, ev3, h⟩ := bd h
        obtain rfl := Option.some.inj h
        exact ⟨hS, hB⟩
theorem zX16_damage_L79 (fu : Nat)   (a0 : Nat) (a1 : Int32) (a2 : Int32)  (M : Mm) {out : Int32 × Mm} (hB : RW M) (ra0 : a0 = 323) (h : fX16_damage_L79 fu  a0 a1 a2 M = some out) : Zq M out.2 ∧ RW out.2 := by
  unfold fX16_damage_L79 at h
  have hS : Zq M M := Zq.rf
  obtain ⟨v1, ev1, h⟩ := bd h
  obtain ⟨M2, eM2, h⟩ := bd h
  have w := z_pA hB (by decide) eM2
  have hS := hS.tr w.1
  have hB := w.2
  obtain ⟨hz, rfl⟩ := rN_some h
  exact ⟨hS, hB⟩
theorem zX16_damage_L73 (fu : Nat) {out : Int32 × Mm} (k16 : Nat → Int32 → Int32 → Int32 → Mm → Option (Int32 × Mm)) (hk16 : ∀ (b0 : Nat) (b1 : Int32) (b2 : Int32) (b3 : Int32)  (M : Mm), RW M → b0 = 323 → k16 b0 b1 b2 b3 M = some out → Zq M out.2 ∧ RW out.2) (a0 : Nat) (a1 : Int32) (a2 : Int32) (a3 : Int32)  (M : Mm) (hB : RW M) (ra0 : a0 = 323) (h : fX16_damage_L73 fu k16 a0 a1 a2 a3 M = some out) : Zq M out.2 ∧ RW out.2 := by
  unfold fX16_damage_L73 at h
  have hS : Zq M M := Zq.rf
  have z := hk16 a0 a1 a2 (a3 + (1 : Int32)) M hB ra0 h
  exact ⟨hS.tr z.1, z.2⟩
theorem zX16_damage_L16 (fu : Nat) {out : Int32 × Mm}   : ∀ (n : Nat) (a0 : Nat) (a1 : Int32) (a2 : Int32) (a3 : Int32)  (M : Mm), RW M → a0 = 323 → fX16_damage_L16 fu  n a0 a1 a2 a3 M = some out → Zq M out.2 ∧ RW out.2 := by
  intro n
  induction n with
  | zero =>
    intro a0 a1 a2 a3 M hB ra0 h
    have h : (none : Option (Int32 × Mm)) = some out := h
    cases h
  | succ n ih =>
    intro a0 a1 a2 a3 M hB ra0 h
    rw [fX16_damage_L16] at h
    have hS : Zq M M := Zq.rf
    by_cases hc : (16 : Int32) ≤ a3
    · have h := (if_pos hc).symm.trans h
      have z := zX16_damage_L79 fu   a0 a1 a2 M hB ra0 h
      exact ⟨hS.tr z.1, z.2⟩
    · have h := (if_neg hc).symm.trans h
      obtain ⟨v1, ev1, h⟩ := bd h
      by_cases hc : v1 = 0
      · have h := (if_pos hc).symm.trans h
        have z := zX16_damage_L79 fu   a0 a1 a2 M hB ra0 h
        exact ⟨hS.tr z.1, z.2⟩
      · have h := (if_neg hc).symm.trans h
        obtain ⟨v2, ev2, h⟩ := bd h
        obtain ⟨v3, ev3, h⟩ := bd h
        obtain ⟨v4, ev4, h⟩ := bd h
        by_cases hc : v4 = 0
        · have h := (if_pos hc).symm.trans h
          have z := zX16_damage_L73 fu (fun b0 b1 b2 b3 M => fX16_damage_L16 fu  n b0 b1 b2 b3 M) ih a0 a1 a2 a3 M hB ra0 h
          exact ⟨hS.tr z.1, z.2⟩
        · have h := (if_neg hc).symm.trans h
          obtain ⟨v5, ev5, h⟩ := bd h
          obtain ⟨v6, ev6, h⟩ := bd h
          by_cases hc : v5 = v6
          · have h := (if_pos hc).symm.trans h
            obtain ⟨v7, ev7, h⟩ := bd h
            obtain ⟨q8, eq8, h⟩ := bd h
            obtain ⟨v10, M9, eM9, h⟩ := b2d h
            have w := zX12_left fu q8 v7 M hB  eM9
            have hS := hS.tr w.1
            have hB := w.2
            by_cases hc : v10 ≤ 0
            · have h := (if_pos hc).symm.trans h
              have z := zX16_damage_L73 fu (fun b0 b1 b2 b3 M => fX16_damage_L16 fu  n b0 b1 b2 b3 M) ih a0 a1 a2 a3 M9 hB ra0 h
              exact ⟨hS.tr z.1, z.2⟩
            · have h := (if_neg hc).symm.trans h
              obtain ⟨hz, rfl⟩ := rN_some h
              exact ⟨hS, hB⟩
          · have h := (if_neg hc).symm.trans h
            obtain ⟨hz, rfl⟩ := rN_some h
            exact ⟨hS, hB⟩
theorem zX16_damage (fu : Nat)   (a0 : Nat) (a1 : Int32) (a2 : Int32)  (M : Mm) {out : Int32 × Mm} (hB : RW M) (ra0 : a0 = 323) (h : fX16_damage fu  a0 a1 a2 M = some out) : Zq M out.2 ∧ RW out.2 := by
  unfold fX16_damage at h
  have hS : Zq M M := Zq.rf
  by_cases hc : a1 < 0
  · have h := (if_pos hc).symm.trans h
    obtain ⟨hz, rfl⟩ := rN_some h
    exact ⟨hS, hB⟩
  · have h := (if_neg hc).symm.trans h
    obtain ⟨v1, ev1, h⟩ := bd h
    by_cases hc : a1 < v1
    · have h := (if_pos hc).symm.trans h
      have z := zX16_damage_L16 fu   fu a0 a1 a2 (0 : Int32) M hB ra0 h
      exact ⟨hS.tr z.1, z.2⟩
    · have h := (if_neg hc).symm.trans h
      obtain ⟨hz, rfl⟩ := rN_some h
      exact ⟨hS, hB⟩
theorem zX16_strays (fu : Nat)   (a0 : Nat)  (M : Mm) {out : Int32 × Mm} (hB : RW M) (ra0 : a0 = 323) (h : fX16_strays fu  a0 M = some out) : Zq M out.2 ∧ RW out.2 := by
  unfold fX16_strays at h
  have hS : Zq M M := Zq.rf
  obtain ⟨v1, ev1, h⟩ := bd h
  obtain rfl := Option.some.inj h
  exact ⟨hS, hB⟩
