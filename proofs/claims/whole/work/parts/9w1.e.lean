/-! ===== the last cell, printed by a program of ours ===== -/
theorem eJ7_fill_53178_L5 (fu : Nat) {out : Mm}   : ∀ (n : Nat) (a0 : Option Nat) (a1 : Int32) (a2 : Int32) (a3 : Int32)  (M : Mm), Lst0 M → fJ7_fill_53178_L5 fu  n a0 a1 a2 a3 M = some out → Lst0 out := by
  intro n
  induction n with
  | zero =>
    intro a0 a1 a2 a3 M hB h
    have h : (none : Option (Mm)) = some out := h
    cases h
  | succ n ih =>
    intro a0 a1 a2 a3 M hB h
    rw [fJ7_fill_53178_L5] at h
    by_cases hc : a3 ≤ a2
    · have h := (if_pos hc).symm.trans h
      obtain rfl := Option.some.inj h
      exact hB
    · have h := (if_neg hc).symm.trans h
      obtain ⟨M1, eM1, h⟩ := bd h
      have hB := e_pA hB eM1
      exact ih a0 a1 (a2 + (1 : Int32)) a3 M1 hB h
theorem eJ7_fill_53178 (fu : Nat) {out : Mm}   (a0 : Option Nat) (a1 : Int32)  (M : Mm) (hB : Lst0 M) (h : fJ7_fill_53178 fu  a0 a1 M = some out) : Lst0 out := by
  unfold fJ7_fill_53178 at h
  obtain ⟨v1, ev1, h⟩ := bd h
  exact eJ7_fill_53178_L5 fu   fu a0 a1 (0 : Int32) v1 M hB h
theorem eX0_begin (fu : Nat) {out : Mm}   (a0 : Nat) (a1 : Int32)  (M : Mm) (hB : Lst0 M) (h : fX0_begin fu  a0 a1 M = some out) : Lst0 out := by
  unfold fX0_begin at h
  obtain ⟨M1, eM1, h⟩ := bd h
  have hB := e_pF hB eM1
  obtain ⟨M2, eM2, h⟩ := bd h
  have hB := e_pF hB eM2
  obtain ⟨M3, eM3, h⟩ := bd h
  have hB := e_pF hB eM3
  obtain ⟨M4, eM4, h⟩ := bd h
  have hB := e_pF hB eM4
  obtain ⟨M5, eM5, h⟩ := bd h
  have hB := e_pZ hB eM5
  obtain ⟨M6, eM6, h⟩ := bd h
  have hB := e_pZ hB eM6
  obtain ⟨M7, eM7, h⟩ := bd h
  have hB := e_pZ hB eM7
  obtain ⟨v8, ev8, h⟩ := bd h
  obtain ⟨M9, eM9, h⟩ := bd h
  have hB := eJ7_fill_53178 fu  v8 (0 : Int32) M7 hB eM9
  obtain rfl := Option.some.inj h
  exact hB
theorem eX0_held (fu : Nat) {out : Int32 × Mm}   (a0 : Nat)  (M : Mm) (hB : Lst0 M) (h : fX0_held fu  a0 M = some out) : Lst0 out.2 := by
  unfold fX0_held at h
  obtain ⟨v1, ev1, h⟩ := bd h
  obtain ⟨v2, ev2, h⟩ := bd h
  obtain ⟨v3, ev3, h⟩ := bd h
  by_cases hc : v3 = 0
  · have h := (if_pos hc).symm.trans h
    obtain rfl := Option.some.inj h
    exact hB
  · have h := (if_neg hc).symm.trans h
    obtain rfl := Option.some.inj h
    exact hB
theorem eX0_window (fu : Nat) {out : Int32 × Mm}   (a0 : Nat)  (M : Mm) (hB : Lst0 M) (h : fX0_window fu  a0 M = some out) : Lst0 out.2 := by
  unfold fX0_window at h
  obtain ⟨q1, eq1, h⟩ := bd h
  obtain ⟨v3, M2, eM2, h⟩ := b2d h
  have hB := eX0_held fu q1  M hB eM2
  obtain rfl := Option.some.inj h
  exact hB
theorem eX0_isInWindow (fu : Nat) {out : Int32 × Mm}   (a0 : Nat) (a1 : Int32)  (M : Mm) (hB : Lst0 M) (h : fX0_isInWindow fu  a0 a1 M = some out) : Lst0 out.2 := by
  unfold fX0_isInWindow at h
  obtain ⟨v1, ev1, h⟩ := bd h
  by_cases hc : (a1 - v1) < 0
  · have h := (if_pos hc).symm.trans h
    obtain ⟨hz, rfl⟩ := rN_some h
    exact hB
  · have h := (if_neg hc).symm.trans h
    obtain ⟨v2, ev2, h⟩ := bd h
    obtain ⟨q3, eq3, h⟩ := bd h
    obtain ⟨v5, M4, eM4, h⟩ := b2d h
    have hB := eX0_window fu q3  M hB eM4
    by_cases hc : 0 ≤ (a1 - (v2 + v5))
    · have h := (if_pos hc).symm.trans h
      obtain ⟨hz, rfl⟩ := rN_some h
      exact hB
    · have h := (if_neg hc).symm.trans h
      obtain ⟨hz, rfl⟩ := rN_some h
      exact hB
theorem eX3_has (fu : Nat) {out : Int32 × Mm}   (a0 : Nat) (a1 : Int32)  (M : Mm) (hB : Lst0 M) (h : fX3_has fu  a0 a1 M = some out) : Lst0 out.2 := by
  unfold fX3_has at h
  obtain ⟨v1, ev1, h⟩ := bd h
  by_cases hc : (v1 &&& a1) = 0
  · have h := (if_pos hc).symm.trans h
    obtain ⟨hz, rfl⟩ := rN_some h
    exact hB
  · have h := (if_neg hc).symm.trans h
    obtain ⟨hz, rfl⟩ := rN_some h
    exact hB
theorem eX3_span_L17 (fu : Nat) {out : Int32 × Mm}   (a0 : Nat) (s0 : Int32) (s1 : Int32) (M : Mm) (hB : Lst0 M) (h : fX3_span_L17 fu  a0 s0 s1 M = some out) : Lst0 out.2 := by
  unfold fX3_span_L17 at h
  obtain ⟨q1, eq1, h⟩ := bd h
  obtain ⟨v3, M2, eM2, h⟩ := b2d h
  have hB := eX3_has fu q1 (1 : Int32) M hB eM2
  by_cases hc : v3 = 0
  · have h := (if_pos hc).symm.trans h
    obtain rfl := Option.some.inj h
    exact hB
  · have h := (if_neg hc).symm.trans h
    obtain rfl := Option.some.inj h
    exact hB
theorem eX3_span (fu : Nat) {out : Int32 × Mm}   (a0 : Nat)  (M : Mm) (hB : Lst0 M) (h : fX3_span fu  a0 M = some out) : Lst0 out.2 := by
  unfold fX3_span at h
  obtain ⟨v1, ev1, h⟩ := bd h
  obtain ⟨q2, eq2, h⟩ := bd h
  obtain ⟨v4, M3, eM3, h⟩ := b2d h
  have hB := eX3_has fu q2 (2 : Int32) M hB eM3
  by_cases hc : v4 = 0
  · have h := (if_pos hc).symm.trans h
    exact eX3_span_L17 fu    a0 v1 (0 : Int32) M3 hB h
  · have h := (if_neg hc).symm.trans h
    exact eX3_span_L17 fu    a0 v1 (1 : Int32) M3 hB h
theorem eX0_accepts (fu : Nat) {out : Int32 × Mm}   (a0 : Nat) (a1 : Option Nat)  (M : Mm) (hB : Lst0 M) (h : fX0_accepts fu  a0 a1 M = some out) : Lst0 out.2 := by
  unfold fX0_accepts at h
  obtain ⟨q1, eq1, h⟩ := bd h
  obtain ⟨v3, M2, eM2, h⟩ := b2d h
  have hB := eX3_span fu q1  M hB eM2
  obtain ⟨q4, eq4, h⟩ := bd h
  obtain ⟨v6, M5, eM5, h⟩ := b2d h
  have hB := eX0_window fu q4  M2 hB eM5
  by_cases hc : v6 = 0
  · have h := (if_pos hc).symm.trans h
    by_cases hc : v3 = 0
    · have h := (if_pos hc).symm.trans h
      obtain ⟨v15, ev15, h⟩ := bd h
      obtain ⟨v16, ev16, h⟩ := bd h
      by_cases hc : v15 = v16
      · have h := (if_pos hc).symm.trans h
        obtain ⟨hz, rfl⟩ := rN_some h
        exact hB
      · have h := (if_neg hc).symm.trans h
        obtain ⟨hz, rfl⟩ := rN_some h
        exact hB
    · have h := (if_neg hc).symm.trans h
      obtain ⟨hz, rfl⟩ := rN_some h
      exact hB
  · have h := (if_neg hc).symm.trans h
    obtain ⟨v7, ev7, h⟩ := bd h
    obtain ⟨q8, eq8, h⟩ := bd h
    obtain ⟨v10, M9, eM9, h⟩ := b2d h
    have hB := eX0_isInWindow fu q8 v7 M5 hB eM9
    by_cases hc : v10 = 0
    · have h := (if_pos hc).symm.trans h
      by_cases hc : v3 ≤ 0
      · have h := (if_pos hc).symm.trans h
        obtain ⟨hz, rfl⟩ := rN_some h
        exact hB
      · have h := (if_neg hc).symm.trans h
        obtain ⟨v11, ev11, h⟩ := bd h
        obtain ⟨q12, eq12, h⟩ := bd h
        obtain ⟨v14, M13, eM13, h⟩ := b2d h
        have hB := eX0_isInWindow fu q12 ((v11 + v3) - (1 : Int32)) M9 hB eM13
        by_cases hc : v14 = 0
        · have h := (if_pos hc).symm.trans h
          obtain ⟨hz, rfl⟩ := rN_some h
          exact hB
        · have h := (if_neg hc).symm.trans h
          obtain ⟨hz, rfl⟩ := rN_some h
          exact hB
    · have h := (if_neg hc).symm.trans h
      obtain ⟨hz, rfl⟩ := rN_some h
      exact hB
theorem eX11_one (fu : Nat) {out : Int32 × Mm}   (a0 : Option Nat) (a1 : Int32)  (M : Mm) (hB : Lst0 M) (h : fX11_one fu  a0 a1 M = some out) : Lst0 out.2 := by
  unfold fX11_one at h
  by_cases hc : a1 < 0
  · have h := (if_pos hc).symm.trans h
    obtain rfl := Option.some.inj h
    exact hB
  · have h := (if_neg hc).symm.trans h
    obtain ⟨v1, ev1, h⟩ := bd h
    by_cases hc : v1 ≤ a1
    · have h := (if_pos hc).symm.trans h
      obtain rfl := Option.some.inj h
      exact hB
    · have h := (if_neg hc).symm.trans h
      obtain ⟨v2, ev2, h⟩ := bd h
      obtain rfl := Option.some.inj h
      exact hB
theorem eX0_putAhead_L110 (fu : Nat) {out : Mm} (k7 : Nat → Option Nat → Int32 → Int32 → Mm → Option (Mm)) (hk7 : ∀ (b0 : Nat) (b1 : Option Nat) (b2 : Int32) (b3 : Int32)  (M : Mm), Lst0 M → k7 b0 b1 b2 b3 M = some out → Lst0 out) (a0 : Nat) (a1 : Option Nat) (a2 : Int32) (a3 : Int32)  (M : Mm) (hB : Lst0 M) (h : fX0_putAhead_L110 fu k7 a0 a1 a2 a3 M = some out) : Lst0 out := by
  unfold fX0_putAhead_L110 at h
  exact hk7 a0 a1 a2 (a3 + (1 : Int32)) M hB h
theorem eX0_putAhead_L7 (fu : Nat) {out : Mm}   : ∀ (n : Nat) (a0 : Nat) (a1 : Option Nat) (a2 : Int32) (a3 : Int32)  (M : Mm), Lst0 M → fX0_putAhead_L7 fu  n a0 a1 a2 a3 M = some out → Lst0 out := by
  intro n
  induction n with
  | zero =>
    intro a0 a1 a2 a3 M hB h
    have h : (none : Option (Mm)) = some out := h
    cases h
  | succ n ih =>
    intro a0 a1 a2 a3 M hB h
    rw [fX0_putAhead_L7] at h
    obtain ⟨v1, ev1, h⟩ := bd h
    by_cases hc : v1 ≤ a3
    · have h := (if_pos hc).symm.trans h
      obtain rfl := Option.some.inj h
      exact hB
    · have h := (if_neg hc).symm.trans h
      obtain ⟨v2, ev2, h⟩ := bd h
      obtain ⟨v3, ev3, h⟩ := bd h
      obtain ⟨v4, ev4, h⟩ := bd h
      by_cases hc : ((v2 + a3) - v3) < 0
      · have h := (if_pos hc).symm.trans h
        exact eX0_putAhead_L110 fu (fun b0 b1 b2 b3 M => fX0_putAhead_L7 fu  n b0 b1 b2 b3 M) ih  a0 a1 a2 a3 M hB h
      · have h := (if_neg hc).symm.trans h
        by_cases hc : a2 ≤ ((v2 + a3) - v3)
        · have h := (if_pos hc).symm.trans h
          exact eX0_putAhead_L110 fu (fun b0 b1 b2 b3 M => fX0_putAhead_L7 fu  n b0 b1 b2 b3 M) ih  a0 a1 a2 a3 M hB h
        · have h := (if_neg hc).symm.trans h
          obtain ⟨v5, ev5, h⟩ := bd h
          obtain ⟨v6, ev6, h⟩ := bd h
          by_cases hc : (v6 &&& v4) = 0
          · have h := (if_pos hc).symm.trans h
            obtain ⟨v7, ev7, h⟩ := bd h
            obtain ⟨v8, ev8, h⟩ := bd h
            obtain ⟨M9, eM9, h⟩ := bd h
            have hB := e_pA hB eM9
            obtain ⟨v10, ev10, h⟩ := bd h
            obtain ⟨v11, ev11, h⟩ := bd h
            obtain ⟨v12, ev12, h⟩ := bd h
            obtain ⟨v14, M13, eM13, h⟩ := b2d h
            have hB := eX11_one fu  v11 (v12 + a3) M9 hB eM13
            obtain ⟨M15, eM15, h⟩ := bd h
            have hB := e_pA hB eM15
            exact eX0_putAhead_L110 fu (fun b0 b1 b2 b3 M => fX0_putAhead_L7 fu  n b0 b1 b2 b3 M) ih  a0 a1 a2 a3 M15 hB h
          · have h := (if_neg hc).symm.trans h
            exact eX0_putAhead_L110 fu (fun b0 b1 b2 b3 M => fX0_putAhead_L7 fu  n b0 b1 b2 b3 M) ih  a0 a1 a2 a3 M hB h
theorem eX0_putAhead (fu : Nat) {out : Mm}   (a0 : Nat) (a1 : Option Nat)  (M : Mm) (hB : Lst0 M) (h : fX0_putAhead fu  a0 a1 M = some out) : Lst0 out := by
  unfold fX0_putAhead at h
  obtain ⟨q1, eq1, h⟩ := bd h
  obtain ⟨v3, M2, eM2, h⟩ := b2d h
  have hB := eX0_window fu q1  M hB eM2
  exact eX0_putAhead_L7 fu   fu a0 a1 v3 (0 : Int32) M2 hB h
theorem eX0_goOverWhatIsThere_L2 (fu : Nat) {out : Mm}   : ∀ (n : Nat) (a0 : Nat) (a1 : Int32)  (M : Mm), Lst0 M → fX0_goOverWhatIsThere_L2 fu  n a0 a1 M = some out → Lst0 out := by
  intro n
  induction n with
  | zero =>
    intro a0 a1 M hB h
    have h : (none : Option (Mm)) = some out := h
    cases h
  | succ n ih =>
    intro a0 a1 M hB h
    rw [fX0_goOverWhatIsThere_L2] at h
    by_cases hc : (4096 : Int32) ≤ a1
    · have h := (if_pos hc).symm.trans h
      obtain rfl := Option.some.inj h
      exact hB
    · have h := (if_neg hc).symm.trans h
      obtain ⟨v1, ev1, h⟩ := bd h
      obtain ⟨v2, ev2, h⟩ := bd h
      obtain ⟨v3, ev3, h⟩ := bd h
      obtain ⟨v4, ev4, h⟩ := bd h
      by_cases hc : (v4 &&& v2) = 0
      · have h := (if_pos hc).symm.trans h
        obtain rfl := Option.some.inj h
        exact hB
      · have h := (if_neg hc).symm.trans h
        obtain ⟨v5, ev5, h⟩ := bd h
        obtain ⟨v6, ev6, h⟩ := bd h
        obtain ⟨M7, eM7, h⟩ := bd h
        have hB := e_pA hB eM7
        obtain ⟨v8, ev8, h⟩ := bd h
        obtain ⟨M9, eM9, h⟩ := bd h
        have hB := e_pF hB eM9
        exact ih a0 (a1 + (1 : Int32)) M9 hB h
theorem eX0_goOverWhatIsThere (fu : Nat) {out : Mm}   (a0 : Nat)  (M : Mm) (hB : Lst0 M) (h : fX0_goOverWhatIsThere fu  a0 M = some out) : Lst0 out := by
  unfold fX0_goOverWhatIsThere at h
  exact eX0_goOverWhatIsThere_L2 fu   fu a0 (0 : Int32) M hB h
theorem eX0_take_L63 (fu : Nat) {out : Int32 × Mm}   (a0 : Nat) (a1 : Option Nat)  (M : Mm) (hB : Lst0 M) (h : fX0_take_L63 fu  a0 a1 M = some out) : Lst0 out.2 := by
  unfold fX0_take_L63 at h
  obtain ⟨q1, eq1, h⟩ := bd h
  obtain ⟨M2, eM2, h⟩ := bd h
  have hB := eX0_putAhead fu q1 a1 M hB eM2
  obtain ⟨q3, eq3, h⟩ := bd h
  obtain ⟨M4, eM4, h⟩ := bd h
  have hB := eX0_goOverWhatIsThere fu q3  M2 hB eM4
  obtain ⟨v5, ev5, h⟩ := bd h
  by_cases hc : v5 = 0
  · have h := (if_pos hc).symm.trans h
    obtain ⟨hz, rfl⟩ := rN_some h
    exact hB
  · have h := (if_neg hc).symm.trans h
    obtain ⟨v6, ev6, h⟩ := bd h
    by_cases hc : v6 = 0
    · have h := (if_pos hc).symm.trans h
      obtain ⟨v7, ev7, h⟩ := bd h
      obtain ⟨v8, ev8, h⟩ := bd h
      by_cases hc : v7 = v8
      · have h := (if_pos hc).symm.trans h
        obtain ⟨v9, ev9, h⟩ := bd h
        obtain ⟨M10, eM10, h⟩ := bd h
        have hB := e_pF hB eM10
        obtain ⟨M11, eM11, h⟩ := bd h
        have hB := e_pZ hB eM11
        obtain ⟨hz, rfl⟩ := rN_some h
        exact hB
      · have h := (if_neg hc).symm.trans h
        obtain ⟨hz, rfl⟩ := rN_some h
        exact hB
    · have h := (if_neg hc).symm.trans h
      obtain ⟨hz, rfl⟩ := rN_some h
      exact hB
theorem eX0_take_L58 (fu : Nat) {out : Int32 × Mm}   (a0 : Nat) (a1 : Option Nat)  (M : Mm) (hB : Lst0 M) (h : fX0_take_L58 fu  a0 a1 M = some out) : Lst0 out.2 := by
  unfold fX0_take_L58 at h
  obtain ⟨M1, eM1, h⟩ := bd h
  have hB := e_pZ hB eM1
  exact eX0_take_L63 fu    a0 a1 M1 hB h
theorem eX0_take_L43 (fu : Nat) {out : Int32 × Mm}   (a0 : Nat) (a1 : Option Nat)  (M : Mm) (hB : Lst0 M) (h : fX0_take_L43 fu  a0 a1 M = some out) : Lst0 out.2 := by
  unfold fX0_take_L43 at h
  obtain ⟨v1, ev1, h⟩ := bd h
  by_cases hc : 0 < v1
  · have h := (if_pos hc).symm.trans h
    exact eX0_take_L58 fu    a0 a1 M hB h
  · have h := (if_neg hc).symm.trans h
    obtain ⟨q2, eq2, h⟩ := bd h
    obtain ⟨v4, M3, eM3, h⟩ := b2d h
    have hB := eX3_has fu q2 (1 : Int32) M hB eM3
    by_cases hc : v4 = 0
    · have h := (if_pos hc).symm.trans h
      exact eX0_take_L63 fu    a0 a1 M3 hB h
    · have h := (if_neg hc).symm.trans h
      exact eX0_take_L58 fu    a0 a1 M3 hB h
theorem eX0_take (fu : Nat) {out : Int32 × Mm}   (a0 : Nat) (a1 : Option Nat)  (M : Mm) (hB : Lst0 M) (h : fX0_take fu  a0 a1 M = some out) : Lst0 out.2 := by
  unfold fX0_take at h
  obtain ⟨v1, ev1, h⟩ := bd h
  obtain ⟨v2, ev2, h⟩ := bd h
  obtain ⟨q3, eq3, h⟩ := bd h
  obtain ⟨v5, M4, eM4, h⟩ := b2d h
  have hB := eX3_has fu q3 (1 : Int32) M hB eM4
  by_cases hc : v5 = 0
  · have h := (if_pos hc).symm.trans h
    exact eX0_take_L43 fu    a0 a1 M4 hB h
  · have h := (if_neg hc).symm.trans h
    obtain ⟨v6, ev6, h⟩ := bd h
    by_cases hc : v6 = 0
    · have h := (if_pos hc).symm.trans h
      obtain ⟨q7, eq7, h⟩ := bd h
      obtain ⟨v9, M8, eM8, h⟩ := b2d h
      have hB := eX0_isInWindow fu q7 (v1 + v2) M4 hB eM8
      by_cases hc : v9 = 0
      · have h := (if_pos hc).symm.trans h
        exact eX0_take_L43 fu    a0 a1 M8 hB h
      · have h := (if_neg hc).symm.trans h
        obtain ⟨M10, eM10, h⟩ := bd h
        have hB := e_pZ hB eM10
        obtain ⟨M11, eM11, h⟩ := bd h
        have hB := e_pF hB eM11
        exact eX0_take_L43 fu    a0 a1 M11 hB h
    · have h := (if_neg hc).symm.trans h
      exact eX0_take_L43 fu    a0 a1 M4 hB h
theorem eX0_peek (fu : Nat) {out : Int32 × Mm}   (a0 : Nat) (a1 : Int32)  (M : Mm) (hB : Lst0 M) (h : fX0_peek fu  a0 a1 M = some out) : Lst0 out.2 := by
  unfold fX0_peek at h
  obtain ⟨v1, ev1, h⟩ := bd h
  obtain ⟨v2, ev2, h⟩ := bd h
  obtain ⟨v3, ev3, h⟩ := bd h
  obtain rfl := Option.some.inj h
  exact hB
theorem eX0_leave (fu : Nat) {out : Mm}   (a0 : Nat) (a1 : Int32)  (M : Mm) (hB : Lst0 M) (h : fX0_leave fu  a0 a1 M = some out) : Lst0 out := by
  unfold fX0_leave at h
  obtain ⟨v1, ev1, h⟩ := bd h
  obtain ⟨M2, eM2, h⟩ := bd h
  have hB := e_pF hB eM2
  obtain ⟨q3, eq3, h⟩ := bd h
  obtain ⟨v5, M4, eM4, h⟩ := b2d h
  have hB := eX0_window fu q3  M2 hB eM4
  obtain ⟨v6, ev6, h⟩ := bd h
  by_cases hc : (v5 - v6) < (2048 : Int32)
  · have h := (if_pos hc).symm.trans h
    obtain rfl := Option.some.inj h
    exact hB
  · have h := (if_neg hc).symm.trans h
    obtain ⟨M7, eM7, h⟩ := bd h
    have hB := e_pZ hB eM7
    obtain rfl := Option.some.inj h
    exact hB
theorem eX0_leaveBody (fu : Nat) {out : Mm}   (a0 : Nat)  (M : Mm) (hB : Lst0 M) (h : fX0_leaveBody fu  a0 M = some out) : Lst0 out := by
  unfold fX0_leaveBody at h
  obtain ⟨v1, ev1, h⟩ := bd h
  obtain ⟨q2, eq2, h⟩ := bd h
  obtain ⟨v4, M3, eM3, h⟩ := b2d h
  have hB := eX0_held fu q2  M hB eM3
  by_cases hc : (jmin v1 v4) ≤ 0
  · have h := (if_pos hc).symm.trans h
    obtain rfl := Option.some.inj h
    exact hB
  · have h := (if_neg hc).symm.trans h
    obtain ⟨v5, ev5, h⟩ := bd h
    obtain ⟨M6, eM6, h⟩ := bd h
    have hB := e_pF hB eM6
    obtain ⟨q7, eq7, h⟩ := bd h
    obtain ⟨M8, eM8, h⟩ := bd h
    have hB := eX0_leave fu q7 (jmin v1 v4) M6 hB eM8
    obtain rfl := Option.some.inj h
    exact hB
theorem eX5_init (fu : Nat) {out : Mm}   (a0 : Nat)  (M : Mm) (hB : Lst0 M) (h : fX5_init fu  a0 M = some out) : Lst0 out := by
  unfold fX5_init at h
  obtain rfl := Option.some.inj h
  exact hB
theorem eX1_init (fu : Nat) {out : Mm}   (a0 : Nat)  (M : Mm) (hB : Lst0 M) (h : fX1_init fu  a0 M = some out) : Lst0 out := by
  unfold fX1_init at h
  obtain ⟨v1, M2, eM2, h⟩ := b2d h
  have hB := e_mkA (by decide) eM2
  obtain ⟨M3, eM3, h⟩ := bd h
  have hB := e_pG hB eM3
  obtain ⟨v4, M5, eM5, h⟩ := b2d h
  obtain ⟨M6, eM6, h⟩ := bd h
  have hB := e_X0init eM6
  obtain ⟨M7, eM7, h⟩ := bd h
  have hB := e_pG hB eM7
  obtain ⟨v8, M9, eM9, h⟩ := b2d h
  have hB := e_mkO (by decide) eM9
  obtain ⟨M10, eM10, h⟩ := bd h
  have hB := eX5_init fu v8  M9 hB eM10
  obtain ⟨M11, eM11, h⟩ := bd h
  have hB := e_pG hB eM11
  obtain rfl := Option.some.inj h
  exact hB
theorem eX1_clearAnswer (fu : Nat) {out : Mm}   (a0 : Nat) (a1 : Int32)  (M : Mm) (hB : Lst0 M) (h : fX1_clearAnswer fu  a0 a1 M = some out) : Lst0 out := by
  unfold fX1_clearAnswer at h
  obtain ⟨M1, eM1, h⟩ := bd h
  have hB := e_pF hB eM1
  obtain ⟨M2, eM2, h⟩ := bd h
  have hB := e_pF hB eM2
  obtain ⟨M3, eM3, h⟩ := bd h
  have hB := e_pF hB eM3
  obtain ⟨M4, eM4, h⟩ := bd h
  have hB := e_pF hB eM4
  obtain ⟨M5, eM5, h⟩ := bd h
  have hB := e_pZ hB eM5
  obtain rfl := Option.some.inj h
  exact hB
theorem eX11_two (fu : Nat) {out : Int32 × Mm}   (a0 : Option Nat) (a1 : Int32)  (M : Mm) (hB : Lst0 M) (h : fX11_two fu  a0 a1 M = some out) : Lst0 out.2 := by
  unfold fX11_two at h
  by_cases hc : a1 < 0
  · have h := (if_pos hc).symm.trans h
    obtain rfl := Option.some.inj h
    exact hB
  · have h := (if_neg hc).symm.trans h
    obtain ⟨v1, ev1, h⟩ := bd h
    by_cases hc : a1 ≤ (v1 - (2 : Int32))
    · have h := (if_pos hc).symm.trans h
      obtain ⟨v2, ev2, h⟩ := bd h
      obtain ⟨v3, ev3, h⟩ := bd h
      obtain rfl := Option.some.inj h
      exact hB
    · have h := (if_neg hc).symm.trans h
      obtain rfl := Option.some.inj h
      exact hB
theorem eX3_mss_L114 (fu : Nat) {out : Int32 × Mm} (k8 : Nat → Int32 → Mm → Option (Int32 × Mm)) (hk8 : ∀ (b0 : Nat) (b1 : Int32)  (M : Mm), Lst0 M → k8 b0 b1 M = some out → Lst0 out.2) (a0 : Nat) (a1 : Int32) (a3 : Int32)  (M : Mm) (hB : Lst0 M) (h : fX3_mss_L114 fu k8 a0 a1 a3 M = some out) : Lst0 out.2 := by
  unfold fX3_mss_L114 at h
  exact hk8 a0 (a1 + a3) M hB h
theorem eX3_mss_L63 (fu : Nat) {out : Int32 × Mm} (k8 : Nat → Int32 → Mm → Option (Int32 × Mm)) (hk8 : ∀ (b0 : Nat) (b1 : Int32)  (M : Mm), Lst0 M → k8 b0 b1 M = some out → Lst0 out.2) (a0 : Nat) (a1 : Int32) (a2 : Int32) (s0 : Int32) (M : Mm) (hB : Lst0 M) (h : fX3_mss_L63 fu k8 a0 a1 a2 s0 M = some out) : Lst0 out.2 := by
  unfold fX3_mss_L63 at h
  by_cases hc : s0 < (2 : Int32)
  · have h := (if_pos hc).symm.trans h
    obtain rfl := Option.some.inj h
    exact hB
  · have h := (if_neg hc).symm.trans h
    obtain ⟨v1, ev1, h⟩ := bd h
    by_cases hc : (a1 + s0) ≤ v1
    · have h := (if_pos hc).symm.trans h
      by_cases hc : a2 = (2 : Int32)
      · have h := (if_pos hc).symm.trans h
        by_cases hc : s0 = (4 : Int32)
        · have h := (if_pos hc).symm.trans h
          obtain ⟨v2, ev2, h⟩ := bd h
          obtain ⟨v4, M3, eM3, h⟩ := b2d h
          have hB := eX11_two fu  v2 (a1 + (2 : Int32)) M hB eM3
          obtain rfl := Option.some.inj h
          exact hB
        · have h := (if_neg hc).symm.trans h
          exact eX3_mss_L114 fu k8 hk8  a0 a1 s0 M hB h
      · have h := (if_neg hc).symm.trans h
        exact eX3_mss_L114 fu k8 hk8  a0 a1 s0 M hB h
    · have h := (if_neg hc).symm.trans h
      obtain rfl := Option.some.inj h
      exact hB
theorem eX3_mss_L8 (fu : Nat) {out : Int32 × Mm}   : ∀ (n : Nat) (a0 : Nat) (a1 : Int32)  (M : Mm), Lst0 M → fX3_mss_L8 fu  n a0 a1 M = some out → Lst0 out.2 := by
  intro n
  induction n with
  | zero =>
    intro a0 a1 M hB h
    have h : (none : Option (Int32 × Mm)) = some out := h
    cases h
  | succ n ih =>
    intro a0 a1 M hB h
    rw [fX3_mss_L8] at h
    obtain ⟨v1, ev1, h⟩ := bd h
    by_cases hc : v1 ≤ a1
    · have h := (if_pos hc).symm.trans h
      obtain rfl := Option.some.inj h
      exact hB
    · have h := (if_neg hc).symm.trans h
      obtain ⟨v2, ev2, h⟩ := bd h
      obtain ⟨v4, M3, eM3, h⟩ := b2d h
      have hB := eX11_one fu  v2 a1 M hB eM3
      by_cases hc : v4 = 0
      · have h := (if_pos hc).symm.trans h
        obtain rfl := Option.some.inj h
        exact hB
      · have h := (if_neg hc).symm.trans h
        by_cases hc : v4 = (1 : Int32)
        · have h := (if_pos hc).symm.trans h
          exact eX3_mss_L114 fu (fun b0 b1 M => fX3_mss_L8 fu  n b0 b1 M) ih  a0 a1 (1 : Int32) M3 hB h
        · have h := (if_neg hc).symm.trans h
          obtain ⟨v5, ev5, h⟩ := bd h
          by_cases hc : v5 ≤ (a1 + (1 : Int32))
          · have h := (if_pos hc).symm.trans h
            exact eX3_mss_L63 fu (fun b0 b1 M => fX3_mss_L8 fu  n b0 b1 M) ih  a0 a1 v4 (0 : Int32) M3 hB h
          · have h := (if_neg hc).symm.trans h
            obtain ⟨v6, ev6, h⟩ := bd h
            obtain ⟨v8, M7, eM7, h⟩ := b2d h
            have hB := eX11_one fu  v6 (a1 + (1 : Int32)) M3 hB eM7
            exact eX3_mss_L63 fu (fun b0 b1 M => fX3_mss_L8 fu  n b0 b1 M) ih  a0 a1 v4 v8 M7 hB h
theorem eX3_mss (fu : Nat) {out : Int32 × Mm}   (a0 : Nat)  (M : Mm) (hB : Lst0 M) (h : fX3_mss fu  a0 M = some out) : Lst0 out.2 := by
  unfold fX3_mss at h
  obtain ⟨v1, ev1, h⟩ := bd h
  exact eX3_mss_L8 fu   fu a0 (v1 + (20 : Int32)) M hB h
theorem eX5_begin_L22 (fu : Nat) {out : Mm}   (a0 : Nat) (s0 : Option Nat) (s1 : Int32) (M : Mm) (hB : Lst0 M) (h : fX5_begin_L22 fu  a0 s0 s1 M = some out) : Lst0 out := by
  unfold fX5_begin_L22 at h
  obtain ⟨M1, eM1, h⟩ := bd h
  have hB := e_pF hB eM1
  obtain ⟨M2, eM2, h⟩ := bd h
  have hB := e_pF hB eM2
  obtain ⟨M3, eM3, h⟩ := bd h
  have hB := e_pF hB eM3
  obtain ⟨M4, eM4, h⟩ := bd h
  have hB := e_pF hB eM4
  obtain ⟨M5, eM5, h⟩ := bd h
  have hB := e_pF hB eM5
  obtain ⟨M6, eM6, h⟩ := bd h
  have hB := e_pF hB eM6
  obtain ⟨M7, eM7, h⟩ := bd h
  have hB := e_pZ hB eM7
  obtain ⟨M8, eM8, h⟩ := bd h
  have hB := e_pZ hB eM8
  obtain ⟨M9, eM9, h⟩ := bd h
  have hB := e_pZ hB eM9
  obtain ⟨M10, eM10, h⟩ := bd h
  have hB := e_pF hB eM10
  obtain ⟨M11, eM11, h⟩ := bd h
  have hB := e_pF hB eM11
  obtain rfl := Option.some.inj h
  exact hB
theorem eX5_begin (fu : Nat) {out : Mm}   (a0 : Nat) (a1 : Int32)  (M : Mm) (hB : Lst0 M) (h : fX5_begin fu  a0 a1 M = some out) : Lst0 out := by
  unfold fX5_begin at h
  obtain ⟨M1, eM1, h⟩ := bd h
  have hB := e_pF hB eM1
  by_cases hc : (1095 : Int32) < a1
  · have h := (if_pos hc).symm.trans h
    exact eX5_begin_L22 fu    a0 (some a0) ((3 : Int32) * a1) M1 hB h
  · have h := (if_neg hc).symm.trans h
    exact eX5_begin_L22 fu    a0 (some a0) ((4 : Int32) * a1) M1 hB h
theorem eX1_begin (fu : Nat) {out : Mm}   (a0 : Nat) (a1 : Option Nat) (a2 : Int32)  (M : Mm) (hB : Lst0 M) (h : fX1_begin fu  a0 a1 a2 M = some out) : Lst0 out := by
  unfold fX1_begin at h
  obtain ⟨M1, eM1, h⟩ := bd h
  have hB := e_pF hB eM1
  obtain ⟨v2, ev2, h⟩ := bd h
  obtain ⟨M3, eM3, h⟩ := bd h
  have hB := e_pF hB eM3
  obtain ⟨v4, ev4, h⟩ := bd h
  obtain ⟨M5, eM5, h⟩ := bd h
  have hB := e_pF hB eM5
  obtain ⟨M6, eM6, h⟩ := bd h
  have hB := e_pF hB eM6
  obtain ⟨M7, eM7, h⟩ := bd h
  have hB := e_pF hB eM7
  obtain ⟨M8, eM8, h⟩ := bd h
  have hB := e_pF hB eM8
  obtain ⟨M9, eM9, h⟩ := bd h
  have hB := e_pF hB eM9
  obtain ⟨v10, ev10, h⟩ := bd h
  obtain ⟨M11, eM11, h⟩ := bd h
  have hB := e_pF hB eM11
  obtain ⟨v12, ev12, h⟩ := bd h
  obtain ⟨M13, eM13, h⟩ := bd h
  have hB := e_pF hB eM13
  obtain ⟨M14, eM14, h⟩ := bd h
  have hB := e_pF hB eM14
  obtain ⟨q15, eq15, h⟩ := bd h
  obtain ⟨M16, eM16, h⟩ := bd h
  have hB := eX1_clearAnswer fu q15 (a2 + (1 : Int32)) M14 hB eM16
  obtain ⟨v17, ev17, h⟩ := bd h
  obtain ⟨v18, ev18, h⟩ := bd h
  obtain ⟨q19, eq19, h⟩ := bd h
  obtain ⟨M20, eM20, h⟩ := bd h
  have hB := eX0_begin fu q19 (v18 + (1 : Int32)) M16 hB eM20
  obtain ⟨v21, ev21, h⟩ := bd h
  obtain ⟨q22, eq22, h⟩ := bd h
  obtain ⟨v24, M23, eM23, h⟩ := b2d h
  have hB := eX3_mss fu q22  M20 hB eM23
  obtain ⟨q25, eq25, h⟩ := bd h
  obtain ⟨M26, eM26, h⟩ := bd h
  have hB := eX5_begin fu q25 v24 M23 hB eM26
  obtain rfl := Option.some.inj h
  exact hB
theorem eX1_leave (fu : Nat) {out : Mm}   (a0 : Nat)  (M : Mm) (hB : Lst0 M) (h : fX1_leave fu  a0 M = some out) : Lst0 out := by
  unfold fX1_leave at h
  obtain ⟨M1, eM1, h⟩ := bd h
  have hB := e_pF hB eM1
  obtain ⟨v2, ev2, h⟩ := bd h
  obtain ⟨M3, eM3, h⟩ := bd h
  have hB := e_pF hB eM3
  obtain rfl := Option.some.inj h
  exact hB
theorem eJ0_coder_7d493 (fu : Nat) {out : Int32 × Mm}   (a0 : Nat)  (M : Mm) (hB : Lst0 M) (h : fJ0_coder_7d493 fu  a0 M = some out) : Lst0 out.2 := by
  unfold fJ0_coder_7d493 at h
  by_cases hc : (1 : Int32) = 0
  · have h := (if_pos hc).symm.trans h
    obtain ⟨hz, rfl⟩ := rN_some h
    exact hB
  · have h := (if_neg hc).symm.trans h
    obtain ⟨v1, ev1, h⟩ := bd h
    obtain ⟨hz, rfl⟩ := rN_some h
    exact hB
theorem eJ0_length_8abf5 (fu : Nat) {out : Int32 × Mm}   (a0 : Nat)  (M : Mm) (hB : Lst0 M) (h : fJ0_length_8abf5 fu  a0 M = some out) : Lst0 out.2 := by
  unfold fJ0_length_8abf5 at h
  obtain ⟨v1, ev1, h⟩ := bd h
  obtain ⟨v2, ev2, h⟩ := bd h
  obtain ⟨q3, eq3, h⟩ := bd h
  obtain ⟨v5, M4, eM4, h⟩ := b2d h
  have hB := eJ0_coder_7d493 fu q3  M hB eM4
  obtain rfl := Option.some.inj h
  exact hB
theorem eJ0_isLatin1_aae02 (fu : Nat) {out : Int32 × Mm}   (a0 : Nat)  (M : Mm) (hB : Lst0 M) (h : fJ0_isLatin1_aae02 fu  a0 M = some out) : Lst0 out.2 := by
  unfold fJ0_isLatin1_aae02 at h
  by_cases hc : (1 : Int32) = 0
  · have h := (if_pos hc).symm.trans h
    obtain ⟨hz, rfl⟩ := rN_some h
    exact hB
  · have h := (if_neg hc).symm.trans h
    obtain ⟨v1, ev1, h⟩ := bd h
    by_cases hc : v1 = 0
    · have h := (if_pos hc).symm.trans h
      obtain ⟨hz, rfl⟩ := rN_some h
      exact hB
    · have h := (if_neg hc).symm.trans h
      obtain ⟨hz, rfl⟩ := rN_some h
      exact hB
theorem eJ3_checkIndex_8e157_L9 (fu : Nat) {out : Int32 × Mm}   (a0 : Int32) (a1 : Int32) (a2 : Option Nat)  (M : Mm) (hB : Lst0 M) (h : fJ3_checkIndex_8e157_L9 fu  a0 a1 a2 M = some out) : Lst0 out.2 := by
  unfold fJ3_checkIndex_8e157_L9 at h
  cases h
theorem eJ3_checkIndex_8e157 (fu : Nat) {out : Int32 × Mm}   (a0 : Int32) (a1 : Int32) (a2 : Option Nat)  (M : Mm) (hB : Lst0 M) (h : fJ3_checkIndex_8e157 fu  a0 a1 a2 M = some out) : Lst0 out.2 := by
  unfold fJ3_checkIndex_8e157 at h
  by_cases hc : a0 < 0
  · have h := (if_pos hc).symm.trans h
    exact eJ3_checkIndex_8e157_L9 fu    a0 a1 a2 M hB h
  · have h := (if_neg hc).symm.trans h
    by_cases hc : a0 < a1
    · have h := (if_pos hc).symm.trans h
      obtain rfl := Option.some.inj h
      exact hB
    · have h := (if_neg hc).symm.trans h
      exact eJ3_checkIndex_8e157_L9 fu    a0 a1 a2 M hB h
theorem eJ0_checkIndex_df160 (fu : Nat) {out : Mm}   (a0 : Int32) (a1 : Int32)  (M : Mm) (hB : Lst0 M) (h : fJ0_checkIndex_df160 fu  a0 a1 M = some out) : Lst0 out := by
  unfold fJ0_checkIndex_df160 at h
  obtain ⟨v2, M1, eM1, h⟩ := b2d h
  have hB := eJ3_checkIndex_8e157 fu  a0 a1 none M hB eM1
  obtain rfl := Option.some.inj h
  exact hB
theorem eJ1_charAt_3b067 (fu : Nat) {out : Int32 × Mm}   (a0 : Option Nat) (a1 : Int32)  (M : Mm) (hB : Lst0 M) (h : fJ1_charAt_3b067 fu  a0 a1 M = some out) : Lst0 out.2 := by
  unfold fJ1_charAt_3b067 at h
  obtain ⟨v1, ev1, h⟩ := bd h
  obtain ⟨M2, eM2, h⟩ := bd h
  have hB := eJ0_checkIndex_df160 fu  a1 v1 M hB eM2
  obtain ⟨v3, ev3, h⟩ := bd h
  obtain ⟨hz, rfl⟩ := rN_some h
  exact hB
theorem eJ2_length_9d52b (fu : Nat) {out : Int32 × Mm}   (a0 : Option Nat)  (M : Mm) (hB : Lst0 M) (h : fJ2_length_9d52b fu  a0 M = some out) : Lst0 out.2 := by
  unfold fJ2_length_9d52b at h
  obtain ⟨v1, ev1, h⟩ := bd h
  obtain rfl := Option.some.inj h
  exact hB
theorem eJ2_checkIndex_2214a (fu : Nat) {out : Mm}   (a0 : Int32) (a1 : Option Nat)  (M : Mm) (hB : Lst0 M) (h : fJ2_checkIndex_2214a fu  a0 a1 M = some out) : Lst0 out := by
  unfold fJ2_checkIndex_2214a at h
  obtain ⟨v2, M1, eM1, h⟩ := b2d h
  have hB := eJ2_length_9d52b fu  a1 M hB eM1
  obtain ⟨M3, eM3, h⟩ := bd h
  have hB := eJ0_checkIndex_df160 fu  a0 v2 M1 hB eM3
  obtain rfl := Option.some.inj h
  exact hB
theorem eJ2_charAt_3b067 (fu : Nat) {out : Int32 × Mm}   (a0 : Option Nat) (a1 : Int32)  (M : Mm) (hB : Lst0 M) (h : fJ2_charAt_3b067 fu  a0 a1 M = some out) : Lst0 out.2 := by
  unfold fJ2_charAt_3b067 at h
  obtain ⟨M1, eM1, h⟩ := bd h
  have hB := eJ2_checkIndex_2214a fu  a1 a0 M hB eM1
  cases h
theorem eJ0_charAt_5068e (fu : Nat) {out : Int32 × Mm}   (a0 : Nat) (a1 : Int32)  (M : Mm) (hB : Lst0 M) (h : fJ0_charAt_5068e fu  a0 a1 M = some out) : Lst0 out.2 := by
  unfold fJ0_charAt_5068e at h
  obtain ⟨q1, eq1, h⟩ := bd h
  obtain ⟨v3, M2, eM2, h⟩ := b2d h
  have hB := eJ0_isLatin1_aae02 fu q1  M hB eM2
  by_cases hc : v3 = 0
  · have h := (if_pos hc).symm.trans h
    obtain ⟨v4, ev4, h⟩ := bd h
    obtain ⟨v6, M5, eM5, h⟩ := b2d h
    have hB := eJ2_charAt_3b067 fu  v4 a1 M2 hB eM5
    obtain ⟨hz, rfl⟩ := rN_some h
    exact hB
  · have h := (if_neg hc).symm.trans h
    obtain ⟨v7, ev7, h⟩ := bd h
    obtain ⟨v9, M8, eM8, h⟩ := b2d h
    have hB := eJ1_charAt_3b067 fu  v7 a1 M2 hB eM8
    obtain ⟨hz, rfl⟩ := rN_some h
    exact hB
theorem eX1_writeCode (fu : Nat) {out : Mm}   (a0 : Nat) (a1 : Int32)  (M : Mm) (hB : Lst0 M) (h : fX1_writeCode fu  a0 a1 M = some out) : Lst0 out := by
  unfold fX1_writeCode at h
  obtain ⟨v1, ev1, h⟩ := bd h
  by_cases hc : (256 : Int32) ≤ v1
  · have h := (if_pos hc).symm.trans h
    obtain rfl := Option.some.inj h
    exact hB
  · have h := (if_neg hc).symm.trans h
    obtain ⟨v2, ev2, h⟩ := bd h
    obtain ⟨v3, ev3, h⟩ := bd h
    obtain ⟨M4, eM4, h⟩ := bd h
    have hB := e_pA hB eM4
    obtain ⟨v5, ev5, h⟩ := bd h
    obtain ⟨M6, eM6, h⟩ := bd h
    have hB := e_pF hB eM6
    obtain rfl := Option.some.inj h
    exact hB
theorem eX1_write_L2 (fu : Nat) {out : Mm}   : ∀ (n : Nat) (a0 : Nat) (a1 : Option Nat) (a2 : Int32)  (M : Mm), Lst0 M → fX1_write_L2 fu  n a0 a1 a2 M = some out → Lst0 out := by
  intro n
  induction n with
  | zero =>
    intro a0 a1 a2 M hB h
    have h : (none : Option (Mm)) = some out := h
    cases h
  | succ n ih =>
    intro a0 a1 a2 M hB h
    rw [fX1_write_L2] at h
    obtain ⟨q1, eq1, h⟩ := bd h
    obtain ⟨v3, M2, eM2, h⟩ := b2d h
    have hB := eJ0_length_8abf5 fu q1  M hB eM2
    by_cases hc : v3 ≤ a2
    · have h := (if_pos hc).symm.trans h
      obtain rfl := Option.some.inj h
      exact hB
    · have h := (if_neg hc).symm.trans h
      obtain ⟨q4, eq4, h⟩ := bd h
      obtain ⟨v6, M5, eM5, h⟩ := b2d h
      have hB := eJ0_charAt_5068e fu q4 a2 M2 hB eM5
      obtain ⟨q7, eq7, h⟩ := bd h
      obtain ⟨M8, eM8, h⟩ := bd h
      have hB := eX1_writeCode fu q7 v6 M5 hB eM8
      exact ih a0 a1 (a2 + (1 : Int32)) M8 hB h
theorem eX1_write (fu : Nat) {out : Mm}   (a0 : Nat) (a1 : Option Nat)  (M : Mm) (hB : Lst0 M) (h : fX1_write fu  a0 a1 M = some out) : Lst0 out := by
  unfold fX1_write at h
  exact eX1_write_L2 fu   fu a0 a1 (0 : Int32) M hB h
theorem eX1_writeNumber_L24 (fu : Nat) {out : Mm}   : ∀ (n : Nat) (a0 : Nat) (a1 : Int32) (a2 : Int32)  (M : Mm), Lst0 M → fX1_writeNumber_L24 fu  n a0 a1 a2 M = some out → Lst0 out := by
  intro n
  induction n with
  | zero =>
    intro a0 a1 a2 M hB h
    have h : (none : Option (Mm)) = some out := h
    cases h
  | succ n ih =>
    intro a0 a1 a2 M hB h
    rw [fX1_writeNumber_L24] at h
    by_cases hc : a2 ≤ 0
    · have h := (if_pos hc).symm.trans h
      obtain rfl := Option.some.inj h
      exact hB
    · have h := (if_neg hc).symm.trans h
      by_cases hz : a2 = 0
      · rw [if_pos hz] at h; cases h
      have h := (if_neg hz).symm.trans h
      obtain ⟨q1, eq1, h⟩ := bd h
      obtain ⟨M2, eM2, h⟩ := bd h
      have hB := eX1_writeCode fu q1 ((48 : Int32) + (irm (a1 / a2) (10 : Int32))) M hB eM2
      exact ih a0 a1 (a2 / (10 : Int32)) M2 hB h
theorem eX1_writeNumber_L2 (fu : Nat) {out : Mm}   : ∀ (n : Nat) (a0 : Nat) (a1 : Int32) (a2 : Int32)  (M : Mm), Lst0 M → fX1_writeNumber_L2 fu  n a0 a1 a2 M = some out → Lst0 out := by
  intro n
  induction n with
  | zero =>
    intro a0 a1 a2 M hB h
    have h : (none : Option (Mm)) = some out := h
    cases h
  | succ n ih =>
    intro a0 a1 a2 M hB h
    rw [fX1_writeNumber_L2] at h
    by_cases hc : (a1 / (10 : Int32)) < a2
    · have h := (if_pos hc).symm.trans h
      exact eX1_writeNumber_L24 fu   fu a0 a1 a2 M hB h
    · have h := (if_neg hc).symm.trans h
      by_cases hc : (1000000000 : Int32) ≤ a2
      · have h := (if_pos hc).symm.trans h
        exact eX1_writeNumber_L24 fu   fu a0 a1 a2 M hB h
      · have h := (if_neg hc).symm.trans h
        exact ih a0 a1 (a2 * (10 : Int32)) M hB h
theorem eX1_writeNumber (fu : Nat) {out : Mm}   (a0 : Nat) (a1 : Int32)  (M : Mm) (hB : Lst0 M) (h : fX1_writeNumber fu  a0 a1 M = some out) : Lst0 out := by
  unfold fX1_writeNumber at h
  exact eX1_writeNumber_L2 fu   fu a0 a1 (1 : Int32) M hB h
theorem eX11_hexCode (fu : Nat) {out : Int32 × Mm}   (a0 : Int32)  (M : Mm) (hB : Lst0 M) (h : fX11_hexCode fu  a0 M = some out) : Lst0 out.2 := by
  unfold fX11_hexCode at h
  by_cases hc : (10 : Int32) ≤ (a0 &&& (15 : Int32))
  · have h := (if_pos hc).symm.trans h
    obtain rfl := Option.some.inj h
    exact hB
  · have h := (if_neg hc).symm.trans h
    obtain rfl := Option.some.inj h
    exact hB
theorem eX1_writeMark_L9 (fu : Nat) {out : Mm}   : ∀ (n : Nat) (a0 : Nat) (a1 : Int32) (a2 : Int32)  (M : Mm), Lst0 M → fX1_writeMark_L9 fu  n a0 a1 a2 M = some out → Lst0 out := by
  intro n
  induction n with
  | zero =>
    intro a0 a1 a2 M hB h
    have h : (none : Option (Mm)) = some out := h
    cases h
  | succ n ih =>
    intro a0 a1 a2 M hB h
    rw [fX1_writeMark_L9] at h
    by_cases hc : a2 < 0
    · have h := (if_pos hc).symm.trans h
      obtain ⟨q1, eq1, h⟩ := bd h
      obtain ⟨M2, eM2, h⟩ := bd h
      have hB := eX1_writeCode fu q1 (34 : Int32) M hB eM2
      obtain rfl := Option.some.inj h
      exact hB
    · have h := (if_neg hc).symm.trans h
      obtain ⟨v4, M3, eM3, h⟩ := b2d h
      have hB := eX11_hexCode fu  (ushr a1 a2) M hB eM3
      obtain ⟨q5, eq5, h⟩ := bd h
      obtain ⟨M6, eM6, h⟩ := bd h
      have hB := eX1_writeCode fu q5 v4 M3 hB eM6
      exact ih a0 a1 (a2 + (-4 : Int32)) M6 hB h
theorem eX1_writeMark (fu : Nat) {out : Mm}   (a0 : Nat) (a1 : Int32)  (M : Mm) (hB : Lst0 M) (h : fX1_writeMark fu  a0 a1 M = some out) : Lst0 out := by
  unfold fX1_writeMark at h
  obtain ⟨q1, eq1, h⟩ := bd h
  obtain ⟨M2, eM2, h⟩ := bd h
  have hB := eX1_writeCode fu q1 (34 : Int32) M hB eM2
  exact eX1_writeMark_L9 fu   fu a0 a1 (28 : Int32) M2 hB h
theorem eX1_dataEnd (fu : Nat) {out : Int32 × Mm}   (a0 : Nat)  (M : Mm) (hB : Lst0 M) (h : fX1_dataEnd fu  a0 M = some out) : Lst0 out.2 := by
  unfold fX1_dataEnd at h
  obtain ⟨v1, ev1, h⟩ := bd h
  obtain ⟨v2, ev2, h⟩ := bd h
  obtain ⟨v3, ev3, h⟩ := bd h
  obtain rfl := Option.some.inj h
  exact hB
theorem eX1_left (fu : Nat) {out : Int32 × Mm}   (a0 : Nat)  (M : Mm) (hB : Lst0 M) (h : fX1_left fu  a0 M = some out) : Lst0 out.2 := by
  unfold fX1_left at h
  obtain ⟨q1, eq1, h⟩ := bd h
  obtain ⟨v3, M2, eM2, h⟩ := b2d h
  have hB := eX1_dataEnd fu q1  M hB eM2
  obtain ⟨v4, ev4, h⟩ := bd h
  obtain ⟨v5, ev5, h⟩ := bd h
  by_cases hc : v5 = 0
  · have h := (if_pos hc).symm.trans h
    obtain rfl := Option.some.inj h
    exact hB
  · have h := (if_neg hc).symm.trans h
    obtain rfl := Option.some.inj h
    exact hB
theorem eX1_isBusy (fu : Nat) {out : Int32 × Mm}   (a0 : Nat)  (M : Mm) (hB : Lst0 M) (h : fX1_isBusy fu  a0 M = some out) : Lst0 out.2 := by
  unfold fX1_isBusy at h
  obtain ⟨q1, eq1, h⟩ := bd h
  obtain ⟨v3, M2, eM2, h⟩ := b2d h
  have hB := eX1_left fu q1  M hB eM2
  by_cases hc : 0 < v3
  · have h := (if_pos hc).symm.trans h
    obtain ⟨hz, rfl⟩ := rN_some h
    exact hB
  · have h := (if_neg hc).symm.trans h
    obtain ⟨v4, ev4, h⟩ := bd h
    obtain ⟨v5, ev5, h⟩ := bd h
    by_cases hc : v4 = v5
    · have h := (if_pos hc).symm.trans h
      obtain ⟨hz, rfl⟩ := rN_some h
      exact hB
    · have h := (if_neg hc).symm.trans h
      obtain ⟨hz, rfl⟩ := rN_some h
      exact hB
theorem eX1_isReady_L17 (fu : Nat) {out : Int32 × Mm}   (a0 : Nat)  (M : Mm) (hB : Lst0 M) (h : fX1_isReady_L17 fu  a0 M = some out) : Lst0 out.2 := by
  unfold fX1_isReady_L17 at h
  obtain ⟨v1, ev1, h⟩ := bd h
  by_cases hc : v1 = 0
  · have h := (if_pos hc).symm.trans h
    obtain ⟨q2, eq2, h⟩ := bd h
    obtain ⟨v4, M3, eM3, h⟩ := b2d h
    have hB := eX1_left fu q2  M hB eM3
    by_cases hc : v4 = 0
    · have h := (if_pos hc).symm.trans h
      obtain ⟨v5, ev5, h⟩ := bd h
      obtain ⟨v6, ev6, h⟩ := bd h
      by_cases hc : v5 = v6
      · have h := (if_pos hc).symm.trans h
        obtain ⟨hz, rfl⟩ := rN_some h
        exact hB
      · have h := (if_neg hc).symm.trans h
        obtain ⟨hz, rfl⟩ := rN_some h
        exact hB
    · have h := (if_neg hc).symm.trans h
      obtain ⟨hz, rfl⟩ := rN_some h
      exact hB
  · have h := (if_neg hc).symm.trans h
    obtain ⟨hz, rfl⟩ := rN_some h
    exact hB
theorem eX1_isReady (fu : Nat) {out : Int32 × Mm}   (a0 : Nat)  (M : Mm) (hB : Lst0 M) (h : fX1_isReady fu  a0 M = some out) : Lst0 out.2 := by
  unfold fX1_isReady at h
  obtain ⟨v1, ev1, h⟩ := bd h
  by_cases hc : v1 = (2 : Int32)
  · have h := (if_pos hc).symm.trans h
    exact eX1_isReady_L17 fu    a0 M hB h
  · have h := (if_neg hc).symm.trans h
    obtain ⟨v2, ev2, h⟩ := bd h
    by_cases hc : v2 = (7 : Int32)
    · have h := (if_pos hc).symm.trans h
      exact eX1_isReady_L17 fu    a0 M hB h
    · have h := (if_neg hc).symm.trans h
      obtain ⟨hz, rfl⟩ := rN_some h
      exact hB
theorem eX1_segmentFrom (fu : Nat) {out : Int32 × Mm}   (a0 : Nat) (a1 : Int32)  (M : Mm) (hB : Lst0 M) (h : fX1_segmentFrom fu  a0 a1 M = some out) : Lst0 out.2 := by
  unfold fX1_segmentFrom at h
  obtain ⟨q1, eq1, h⟩ := bd h
  obtain ⟨v3, M2, eM2, h⟩ := b2d h
  have hB := eX1_dataEnd fu q1  M hB eM2
  obtain ⟨v4, ev4, h⟩ := bd h
  obtain ⟨v5, ev5, h⟩ := bd h
  by_cases hc : (jmin v5 (v3 - a1)) = (v3 - a1)
  · have h := (if_pos hc).symm.trans h
    obtain ⟨v6, ev6, h⟩ := bd h
    by_cases hc : v6 = 0
    · have h := (if_pos hc).symm.trans h
      obtain rfl := Option.some.inj h
      exact hB
    · have h := (if_neg hc).symm.trans h
      obtain rfl := Option.some.inj h
      exact hB
  · have h := (if_neg hc).symm.trans h
    obtain rfl := Option.some.inj h
    exact hB
theorem eX1_mayGo_L81 (fu : Nat) {out : Int32 × Mm}   (a1 : Int32) (a2 : Int32) (a3 : Int32) (s0 : Int32) (M : Mm) (hB : Lst0 M) (h : fX1_mayGo_L81 fu  a1 a2 a3 s0 M = some out) : Lst0 out.2 := by
  unfold fX1_mayGo_L81 at h
  by_cases hc : s0 = 0
  · have h := (if_pos hc).symm.trans h
    by_cases hc : a3 = a1
    · have h := (if_pos hc).symm.trans h
      obtain rfl := Option.some.inj h
      exact hB
    · have h := (if_neg hc).symm.trans h
      by_cases hc : a2 = 0
      · have h := (if_pos hc).symm.trans h
        obtain rfl := Option.some.inj h
        exact hB
      · have h := (if_neg hc).symm.trans h
        obtain rfl := Option.some.inj h
        exact hB
  · have h := (if_neg hc).symm.trans h
    obtain rfl := Option.some.inj h
    exact hB
theorem eX1_mayGo (fu : Nat) {out : Int32 × Mm}   (a0 : Nat)  (M : Mm) (hB : Lst0 M) (h : fX1_mayGo fu  a0 M = some out) : Lst0 out.2 := by
  unfold fX1_mayGo at h
  obtain ⟨q1, eq1, h⟩ := bd h
  obtain ⟨v3, M2, eM2, h⟩ := b2d h
  have hB := eX1_left fu q1  M hB eM2
  obtain ⟨v4, ev4, h⟩ := bd h
  obtain ⟨v5, ev5, h⟩ := bd h
  obtain ⟨v6, ev6, h⟩ := bd h
  obtain ⟨q7, eq7, h⟩ := bd h
  obtain ⟨v9, M8, eM8, h⟩ := b2d h
  have hB := eX1_segmentFrom fu q7 v6 M2 hB eM8
  obtain ⟨v10, ev10, h⟩ := bd h
  obtain ⟨v11, ev11, h⟩ := bd h
  obtain ⟨v12, ev12, h⟩ := bd h
  by_cases hc : v3 ≤ 0
  · have h := (if_pos hc).symm.trans h
    obtain rfl := Option.some.inj h
    exact hB
  · have h := (if_neg hc).symm.trans h
    by_cases hc : 0 < (jmin v9 ((jmin v11 v12) - (v4 - v5)))
    · have h := (if_pos hc).symm.trans h
      obtain ⟨q13, eq13, h⟩ := bd h
      obtain ⟨v15, M14, eM14, h⟩ := b2d h
      have hB := eX1_dataEnd fu q13  M8 hB eM14
      obtain ⟨v16, ev16, h⟩ := bd h
      obtain ⟨v17, ev17, h⟩ := bd h
      obtain ⟨v18, ev18, h⟩ := bd h
      by_cases hc : (jmin (jmin v9 ((jmin v11 v12) - (v4 - v5))) (v15 - v16)) = v18
      · have h := (if_pos hc).symm.trans h
        exact eX1_mayGo_L81 fu    v3 (v4 - v5) (jmin v9 ((jmin v11 v12) - (v4 - v5))) (1 : Int32) M14 hB h
      · have h := (if_neg hc).symm.trans h
        exact eX1_mayGo_L81 fu    v3 (v4 - v5) (jmin v9 ((jmin v11 v12) - (v4 - v5))) (0 : Int32) M14 hB h
    · have h := (if_neg hc).symm.trans h
      obtain rfl := Option.some.inj h
      exact hB
theorem eX1_goesAgain (fu : Nat) {out : Int32 × Mm}   (a0 : Nat)  (M : Mm) (hB : Lst0 M) (h : fX1_goesAgain fu  a0 M = some out) : Lst0 out.2 := by
  unfold fX1_goesAgain at h
  obtain ⟨v1, ev1, h⟩ := bd h
  obtain ⟨q2, eq2, h⟩ := bd h
  obtain ⟨v4, M3, eM3, h⟩ := b2d h
  have hB := eX1_segmentFrom fu q2 v1 M hB eM3
  obtain ⟨v5, ev5, h⟩ := bd h
  obtain ⟨v6, ev6, h⟩ := bd h
  obtain rfl := Option.some.inj h
  exact hB
theorem eX1_advance (fu : Nat) {out : Mm}   (a0 : Nat) (a1 : Int32)  (M : Mm) (hB : Lst0 M) (h : fX1_advance fu  a0 a1 M = some out) : Lst0 out := by
  unfold fX1_advance at h
  obtain ⟨v1, ev1, h⟩ := bd h
  obtain ⟨M2, eM2, h⟩ := bd h
  have hB := e_pF hB eM2
  obtain ⟨v3, ev3, h⟩ := bd h
  obtain ⟨v4, ev4, h⟩ := bd h
  by_cases hc : (v3 - v4) ≤ 0
  · have h := (if_pos hc).symm.trans h
    obtain rfl := Option.some.inj h
    exact hB
  · have h := (if_neg hc).symm.trans h
    obtain ⟨v5, ev5, h⟩ := bd h
    obtain ⟨M6, eM6, h⟩ := bd h
    have hB := e_pF hB eM6
    obtain rfl := Option.some.inj h
    exact hB
theorem eX1_isWindowNewer (fu : Nat) {out : Int32 × Mm}   (a0 : Nat) (a1 : Option Nat)  (M : Mm) (hB : Lst0 M) (h : fX1_isWindowNewer fu  a0 a1 M = some out) : Lst0 out.2 := by
  unfold fX1_isWindowNewer at h
  obtain ⟨v1, ev1, h⟩ := bd h
  obtain ⟨v2, ev2, h⟩ := bd h
  by_cases hc : (v1 - v2) < 0
  · have h := (if_pos hc).symm.trans h
    obtain ⟨hz, rfl⟩ := rN_some h
    exact hB
  · have h := (if_neg hc).symm.trans h
    obtain ⟨v3, ev3, h⟩ := bd h
    obtain ⟨v4, ev4, h⟩ := bd h
    by_cases hc : v3 = v4
    · have h := (if_pos hc).symm.trans h
      obtain ⟨v5, ev5, h⟩ := bd h
      obtain ⟨v6, ev6, h⟩ := bd h
      by_cases hc : (v5 - v6) < 0
      · have h := (if_pos hc).symm.trans h
        obtain ⟨hz, rfl⟩ := rN_some h
        exact hB
      · have h := (if_neg hc).symm.trans h
        obtain ⟨hz, rfl⟩ := rN_some h
        exact hB
    · have h := (if_neg hc).symm.trans h
      obtain ⟨hz, rfl⟩ := rN_some h
      exact hB
theorem eX1_takeWindow (fu : Nat) {out : Mm}   (a0 : Nat) (a1 : Option Nat)  (M : Mm) (hB : Lst0 M) (h : fX1_takeWindow fu  a0 a1 M = some out) : Lst0 out := by
  unfold fX1_takeWindow at h
  obtain ⟨v1, ev1, h⟩ := bd h
  obtain ⟨M2, eM2, h⟩ := bd h
  have hB := e_pF hB eM2
  obtain ⟨v3, ev3, h⟩ := bd h
  obtain ⟨M4, eM4, h⟩ := bd h
  have hB := e_pF hB eM4
  obtain ⟨v5, ev5, h⟩ := bd h
  obtain ⟨M6, eM6, h⟩ := bd h
  have hB := e_pF hB eM6
  obtain rfl := Option.some.inj h
  exact hB
theorem eX1_finGoes (fu : Nat) {out : Mm}   (a0 : Nat)  (M : Mm) (hB : Lst0 M) (h : fX1_finGoes fu  a0 M = some out) : Lst0 out := by
  unfold fX1_finGoes at h
  obtain ⟨v1, ev1, h⟩ := bd h
  by_cases hc : v1 = (2 : Int32)
  · have h := (if_pos hc).symm.trans h
    obtain ⟨M4, eM4, h⟩ := bd h
    have hB := e_pF hB eM4
    obtain rfl := Option.some.inj h
    exact hB
  · have h := (if_neg hc).symm.trans h
    obtain ⟨v2, ev2, h⟩ := bd h
    by_cases hc : v2 = (7 : Int32)
    · have h := (if_pos hc).symm.trans h
      obtain ⟨M3, eM3, h⟩ := bd h
      have hB := e_pF hB eM3
      obtain rfl := Option.some.inj h
      exact hB
    · have h := (if_neg hc).symm.trans h
      obtain rfl := Option.some.inj h
      exact hB
theorem eX1_linger (fu : Nat) {out : Mm}   (a0 : Nat) (a1 : Int32)  (M : Mm) (hB : Lst0 M) (h : fX1_linger fu  a0 a1 M = some out) : Lst0 out := by
  unfold fX1_linger at h
  obtain ⟨M1, eM1, h⟩ := bd h
  have hB := e_pF hB eM1
  obtain ⟨M2, eM2, h⟩ := bd h
  have hB := e_pF hB eM2
  obtain rfl := Option.some.inj h
  exact hB
theorem eX1_finIsAcknowledged (fu : Nat) {out : Mm}   (a0 : Nat) (a1 : Int32)  (M : Mm) (hB : Lst0 M) (h : fX1_finIsAcknowledged fu  a0 a1 M = some out) : Lst0 out := by
  unfold fX1_finIsAcknowledged at h
  obtain ⟨v1, ev1, h⟩ := bd h
  by_cases hc : v1 = (3 : Int32)
  · have h := (if_pos hc).symm.trans h
    obtain ⟨M8, eM8, h⟩ := bd h
    have hB := e_pF hB eM8
    obtain ⟨M9, eM9, h⟩ := bd h
    have hB := e_pF hB eM9
    obtain rfl := Option.some.inj h
    exact hB
  · have h := (if_neg hc).symm.trans h
    obtain ⟨v2, ev2, h⟩ := bd h
    by_cases hc : v2 = (5 : Int32)
    · have h := (if_pos hc).symm.trans h
      obtain ⟨q6, eq6, h⟩ := bd h
      obtain ⟨M7, eM7, h⟩ := bd h
      have hB := eX1_linger fu q6 a1 M hB eM7
      obtain rfl := Option.some.inj h
      exact hB
    · have h := (if_neg hc).symm.trans h
      obtain ⟨v3, ev3, h⟩ := bd h
      by_cases hc : v3 = (8 : Int32)
      · have h := (if_pos hc).symm.trans h
        obtain ⟨q4, eq4, h⟩ := bd h
        obtain ⟨M5, eM5, h⟩ := bd h
        have hB := eX1_leave fu q4  M hB eM5
        obtain rfl := Option.some.inj h
        exact hB
      · have h := (if_neg hc).symm.trans h
        obtain rfl := Option.some.inj h
        exact hB
theorem eX1_otherSideEnds (fu : Nat) {out : Mm}   (a0 : Nat) (a1 : Int32)  (M : Mm) (hB : Lst0 M) (h : fX1_otherSideEnds fu  a0 a1 M = some out) : Lst0 out := by
  unfold fX1_otherSideEnds at h
  obtain ⟨v1, ev1, h⟩ := bd h
  by_cases hc : v1 = (2 : Int32)
  · have h := (if_pos hc).symm.trans h
    obtain ⟨M7, eM7, h⟩ := bd h
    have hB := e_pF hB eM7
    obtain rfl := Option.some.inj h
    exact hB
  · have h := (if_neg hc).symm.trans h
    obtain ⟨v2, ev2, h⟩ := bd h
    by_cases hc : v2 = (3 : Int32)
    · have h := (if_pos hc).symm.trans h
      obtain ⟨M6, eM6, h⟩ := bd h
      have hB := e_pF hB eM6
      obtain rfl := Option.some.inj h
      exact hB
    · have h := (if_neg hc).symm.trans h
      obtain ⟨v3, ev3, h⟩ := bd h
      by_cases hc : v3 = (4 : Int32)
      · have h := (if_pos hc).symm.trans h
        obtain ⟨q4, eq4, h⟩ := bd h
        obtain ⟨M5, eM5, h⟩ := bd h
        have hB := eX1_linger fu q4 a1 M hB eM5
        obtain rfl := Option.some.inj h
        exact hB
      · have h := (if_neg hc).symm.trans h
        obtain rfl := Option.some.inj h
        exact hB
theorem eX1_lifeDue (fu : Nat) {out : Int32 × Mm}   (a0 : Nat)  (M : Mm) (hB : Lst0 M) (h : fX1_lifeDue fu  a0 M = some out) : Lst0 out.2 := by
  unfold fX1_lifeDue at h
  obtain ⟨v1, ev1, h⟩ := bd h
  by_cases hc : v1 = (4 : Int32)
  · have h := (if_pos hc).symm.trans h
    obtain ⟨v2, ev2, h⟩ := bd h
    obtain rfl := Option.some.inj h
    exact hB
  · have h := (if_neg hc).symm.trans h
    obtain ⟨v3, ev3, h⟩ := bd h
    by_cases hc : v3 = (6 : Int32)
    · have h := (if_pos hc).symm.trans h
      obtain ⟨v9, ev9, h⟩ := bd h
      obtain rfl := Option.some.inj h
      exact hB
    · have h := (if_neg hc).symm.trans h
      obtain ⟨v4, ev4, h⟩ := bd h
      by_cases hc : v4 = (2 : Int32)
      · have h := (if_pos hc).symm.trans h
        obtain ⟨q5, eq5, h⟩ := bd h
        obtain ⟨v7, M6, eM6, h⟩ := b2d h
        have hB := eX1_isBusy fu q5  M hB eM6
        by_cases hc : v7 = 0
        · have h := (if_pos hc).symm.trans h
          obtain ⟨v8, ev8, h⟩ := bd h
          obtain rfl := Option.some.inj h
          exact hB
        · have h := (if_neg hc).symm.trans h
          obtain rfl := Option.some.inj h
          exact hB
      · have h := (if_neg hc).symm.trans h
        obtain rfl := Option.some.inj h
        exact hB
theorem eX1_endLife (fu : Nat) {out : Mm}   (a0 : Nat)  (M : Mm) (hB : Lst0 M) (h : fX1_endLife fu  a0 M = some out) : Lst0 out := by
  unfold fX1_endLife at h
  obtain ⟨v1, ev1, h⟩ := bd h
  by_cases hc : v1 = (2 : Int32)
  · have h := (if_pos hc).symm.trans h
    obtain ⟨M4, eM4, h⟩ := bd h
    have hB := e_pZ hB eM4
    obtain rfl := Option.some.inj h
    exact hB
  · have h := (if_neg hc).symm.trans h
    obtain ⟨q2, eq2, h⟩ := bd h
    obtain ⟨M3, eM3, h⟩ := bd h
    have hB := eX1_leave fu q2  M hB eM3
    obtain rfl := Option.some.inj h
    exact hB
theorem eX1_allows_L71 (fu : Nat) {out : Int32 × Mm}   (a0 : Nat) (a1 : Int32) (a2 : Int32) (s0 : Int32) (M : Mm) (hB : Lst0 M) (h : fX1_allows_L71 fu  a0 a1 a2 s0 M = some out) : Lst0 out.2 := by
  unfold fX1_allows_L71 at h
  obtain ⟨v1, ev1, h⟩ := bd h
  by_cases hc : v1 = 0
  · have h := (if_pos hc).symm.trans h
    obtain ⟨hz, rfl⟩ := rN_some h
    exact hB
  · have h := (if_neg hc).symm.trans h
    by_cases hc : s0 = 0
    · have h := (if_pos hc).symm.trans h
      by_cases hc : a2 = 0
      · have h := (if_pos hc).symm.trans h
        by_cases hc : (a1 &&& (1 : Int32)) = 0
        · have h := (if_pos hc).symm.trans h
          obtain ⟨hz, rfl⟩ := rN_some h
          exact hB
        · have h := (if_neg hc).symm.trans h
          obtain ⟨hz, rfl⟩ := rN_some h
          exact hB
      · have h := (if_neg hc).symm.trans h
        obtain ⟨hz, rfl⟩ := rN_some h
        exact hB
    · have h := (if_neg hc).symm.trans h
      obtain ⟨hz, rfl⟩ := rN_some h
      exact hB
theorem eX1_allows_L66 (fu : Nat) {out : Int32 × Mm}   (a0 : Nat) (a1 : Int32) (a2 : Int32)  (M : Mm) (hB : Lst0 M) (h : fX1_allows_L66 fu  a0 a1 a2 M = some out) : Lst0 out.2 := by
  unfold fX1_allows_L66 at h
  exact eX1_allows_L71 fu    a0 a1 a2 (1 : Int32) M hB h
theorem eX1_allows (fu : Nat) {out : Int32 × Mm}   (a0 : Nat) (a1 : Int32) (a2 : Int32)  (M : Mm) (hB : Lst0 M) (h : fX1_allows fu  a0 a1 a2 M = some out) : Lst0 out.2 := by
  unfold fX1_allows at h
  by_cases hc : (a1 &&& (2 : Int32)) = 0
  · have h := (if_pos hc).symm.trans h
    obtain ⟨v1, ev1, h⟩ := bd h
    by_cases hc : v1 = (2 : Int32)
    · have h := (if_pos hc).symm.trans h
      exact eX1_allows_L66 fu    a0 a1 a2 M hB h
    · have h := (if_neg hc).symm.trans h
      obtain ⟨v2, ev2, h⟩ := bd h
      by_cases hc : v2 = (7 : Int32)
      · have h := (if_pos hc).symm.trans h
        exact eX1_allows_L66 fu    a0 a1 a2 M hB h
      · have h := (if_neg hc).symm.trans h
        obtain ⟨v3, ev3, h⟩ := bd h
        by_cases hc : v3 = (3 : Int32)
        · have h := (if_pos hc).symm.trans h
          exact eX1_allows_L66 fu    a0 a1 a2 M hB h
        · have h := (if_neg hc).symm.trans h
          obtain ⟨v4, ev4, h⟩ := bd h
          by_cases hc : v4 = (5 : Int32)
          · have h := (if_pos hc).symm.trans h
            exact eX1_allows_L66 fu    a0 a1 a2 M hB h
          · have h := (if_neg hc).symm.trans h
            obtain ⟨v5, ev5, h⟩ := bd h
            by_cases hc : v5 = (8 : Int32)
            · have h := (if_pos hc).symm.trans h
              exact eX1_allows_L66 fu    a0 a1 a2 M hB h
            · have h := (if_neg hc).symm.trans h
              exact eX1_allows_L71 fu    a0 a1 a2 (0 : Int32) M hB h
  · have h := (if_neg hc).symm.trans h
    obtain ⟨v6, ev6, h⟩ := bd h
    by_cases hc : v6 = (1 : Int32)
    · have h := (if_pos hc).symm.trans h
      by_cases hc : a2 = 0
      · have h := (if_pos hc).symm.trans h
        obtain ⟨hz, rfl⟩ := rN_some h
        exact hB
      · have h := (if_neg hc).symm.trans h
        obtain ⟨hz, rfl⟩ := rN_some h
        exact hB
    · have h := (if_neg hc).symm.trans h
      obtain ⟨hz, rfl⟩ := rN_some h
      exact hB
theorem eX1_number (fu : Nat) {out : Int32 × Mm}   (a0 : Nat) (a1 : Int32)  (M : Mm) (hB : Lst0 M) (h : fX1_number fu  a0 a1 M = some out) : Lst0 out.2 := by
  unfold fX1_number at h
  by_cases hc0 : a1 = (0 : Int32)
  · have h := (if_pos hc0).symm.trans h
    obtain ⟨v1, ev1, h⟩ := bd h
    obtain rfl := Option.some.inj h
    exact hB
  have h := (if_neg hc0).symm.trans h
  by_cases hc1 : a1 = (1 : Int32)
  · have h := (if_pos hc1).symm.trans h
    obtain ⟨v2, ev2, h⟩ := bd h
    obtain rfl := Option.some.inj h
    exact hB
  have h := (if_neg hc1).symm.trans h
  by_cases hc2 : a1 = (2 : Int32)
  · have h := (if_pos hc2).symm.trans h
    obtain ⟨v3, ev3, h⟩ := bd h
    obtain rfl := Option.some.inj h
    exact hB
  have h := (if_neg hc2).symm.trans h
  by_cases hc3 : a1 = (3 : Int32)
  · have h := (if_pos hc3).symm.trans h
    obtain ⟨v4, ev4, h⟩ := bd h
    obtain rfl := Option.some.inj h
    exact hB
  have h := (if_neg hc3).symm.trans h
  by_cases hc4 : a1 = (4 : Int32)
  · have h := (if_pos hc4).symm.trans h
    obtain ⟨v5, ev5, h⟩ := bd h
    obtain rfl := Option.some.inj h
    exact hB
  have h := (if_neg hc4).symm.trans h
  by_cases hc5 : a1 = (5 : Int32)
  · have h := (if_pos hc5).symm.trans h
    obtain ⟨v6, ev6, h⟩ := bd h
    obtain ⟨v7, ev7, h⟩ := bd h
    obtain rfl := Option.some.inj h
    exact hB
  have h := (if_neg hc5).symm.trans h
  by_cases hc6 : a1 = (6 : Int32)
  · have h := (if_pos hc6).symm.trans h
    obtain ⟨v8, ev8, h⟩ := bd h
    obtain rfl := Option.some.inj h
    exact hB
  have h := (if_neg hc6).symm.trans h
  by_cases hc7 : a1 = (7 : Int32)
  · have h := (if_pos hc7).symm.trans h
    obtain ⟨v9, ev9, h⟩ := bd h
    obtain ⟨v10, ev10, h⟩ := bd h
    obtain rfl := Option.some.inj h
    exact hB
  have h := (if_neg hc7).symm.trans h
  by_cases hc8 : a1 = (8 : Int32)
  · have h := (if_pos hc8).symm.trans h
    obtain ⟨v11, ev11, h⟩ := bd h
    obtain ⟨v12, ev12, h⟩ := bd h
    obtain rfl := Option.some.inj h
    exact hB
  have h := (if_neg hc8).symm.trans h
  by_cases hc9 : a1 = (9 : Int32)
  · have h := (if_pos hc9).symm.trans h
    obtain ⟨v13, ev13, h⟩ := bd h
    obtain ⟨v14, ev14, h⟩ := bd h
    obtain rfl := Option.some.inj h
    exact hB
  have h := (if_neg hc9).symm.trans h
  by_cases hc10 : a1 = (10 : Int32)
  · have h := (if_pos hc10).symm.trans h
    obtain ⟨v15, ev15, h⟩ := bd h
    obtain ⟨v16, ev16, h⟩ := bd h
    obtain rfl := Option.some.inj h
    exact hB
  have h := (if_neg hc10).symm.trans h
  by_cases hc11 : a1 = (11 : Int32)
  · have h := (if_pos hc11).symm.trans h
    obtain ⟨v17, ev17, h⟩ := bd h
    obtain ⟨q18, eq18, h⟩ := bd h
    obtain ⟨v20, M19, eM19, h⟩ := b2d h
    have hB := eX0_held fu q18  M hB eM19
    obtain rfl := Option.some.inj h
    exact hB
  have h := (if_neg hc11).symm.trans h
  by_cases hc12 : a1 = (12 : Int32)
  · have h := (if_pos hc12).symm.trans h
    obtain ⟨q21, eq21, h⟩ := bd h
    obtain ⟨v23, M22, eM22, h⟩ := b2d h
    have hB := eX1_left fu q21  M hB eM22
    obtain rfl := Option.some.inj h
    exact hB
  have h := (if_neg hc12).symm.trans h
  by_cases hc13 : a1 = (13 : Int32)
  · have h := (if_pos hc13).symm.trans h
    obtain ⟨v24, ev24, h⟩ := bd h
    obtain ⟨v25, ev25, h⟩ := bd h
    obtain rfl := Option.some.inj h
    exact hB
  have h := (if_neg hc13).symm.trans h
  obtain ⟨v26, ev26, h⟩ := bd h
  obtain ⟨v27, ev27, h⟩ := bd h
  obtain rfl := Option.some.inj h
  exact hB
theorem eX2_init (fu : Nat) {out : Mm}   (a0 : Nat)  (M : Mm) (hB : Lst0 M) (h : fX2_init fu  a0 M = some out) : Lst0 out := by
  unfold fX2_init at h
  obtain ⟨v1, M2, eM2, h⟩ := b2d h
  have hB := e_mkA (by decide) eM2
  obtain ⟨M3, eM3, h⟩ := bd h
  have hB := e_pG hB eM3
  obtain ⟨v4, M5, eM5, h⟩ := b2d h
  have hB := e_mkA (by decide) eM5
  obtain ⟨M6, eM6, h⟩ := bd h
  have hB := e_pG hB eM6
  obtain rfl := Option.some.inj h
  exact hB
theorem eX2_begin (fu : Nat) {out : Mm}   (a0 : Nat) (a1 : Int32) (a2 : Int32) (a3 : Int32) (a4 : Int32)  (M : Mm) (hB : Lst0 M) (h : fX2_begin fu  a0 a1 a2 a3 a4 M = some out) : Lst0 out := by
  unfold fX2_begin at h
  obtain ⟨M1, eM1, h⟩ := bd h
  have hB := e_pF hB eM1
  obtain ⟨M2, eM2, h⟩ := bd h
  have hB := e_pF hB eM2
  obtain ⟨M3, eM3, h⟩ := bd h
  have hB := e_pF hB eM3
  obtain ⟨M4, eM4, h⟩ := bd h
  have hB := e_pF hB eM4
  obtain ⟨M5, eM5, h⟩ := bd h
  have hB := e_pF hB eM5
  obtain ⟨M6, eM6, h⟩ := bd h
  have hB := e_pF hB eM6
  obtain ⟨M7, eM7, h⟩ := bd h
  have hB := e_pF hB eM7
  obtain ⟨v8, ev8, h⟩ := bd h
  obtain ⟨M9, eM9, h⟩ := bd h
  have hB := eJ7_fill_53178 fu  v8 (0 : Int32) M7 hB eM9
  obtain rfl := Option.some.inj h
  exact hB
theorem eX2_isOf (fu : Nat) {out : Int32 × Mm}   (a0 : Nat) (a1 : Int32) (a2 : Int32) (a3 : Int32)  (M : Mm) (hB : Lst0 M) (h : fX2_isOf fu  a0 a1 a2 a3 M = some out) : Lst0 out.2 := by
  unfold fX2_isOf at h
  obtain ⟨v1, ev1, h⟩ := bd h
  by_cases hc : v1 = a1
  · have h := (if_pos hc).symm.trans h
    obtain ⟨v2, ev2, h⟩ := bd h
    by_cases hc : v2 = a2
    · have h := (if_pos hc).symm.trans h
      obtain ⟨v3, ev3, h⟩ := bd h
      by_cases hc : v3 = a3
      · have h := (if_pos hc).symm.trans h
        obtain ⟨hz, rfl⟩ := rN_some h
        exact hB
      · have h := (if_neg hc).symm.trans h
        obtain ⟨hz, rfl⟩ := rN_some h
        exact hB
    · have h := (if_neg hc).symm.trans h
      obtain ⟨hz, rfl⟩ := rN_some h
      exact hB
  · have h := (if_neg hc).symm.trans h
    obtain ⟨hz, rfl⟩ := rN_some h
    exact hB
theorem eX2_agrees (fu : Nat) {out : Int32 × Mm}   (a0 : Nat) (a1 : Int32) (a2 : Int32)  (M : Mm) (hB : Lst0 M) (h : fX2_agrees fu  a0 a1 a2 M = some out) : Lst0 out.2 := by
  unfold fX2_agrees at h
  by_cases hc : a2 = 0
  · have h := (if_pos hc).symm.trans h
    obtain ⟨v1, ev1, h⟩ := bd h
    by_cases hc : 0 ≤ v1
    · have h := (if_pos hc).symm.trans h
      obtain ⟨v2, ev2, h⟩ := bd h
      by_cases hc : a1 = v2
      · have h := (if_pos hc).symm.trans h
        obtain ⟨hz, rfl⟩ := rN_some h
        exact hB
      · have h := (if_neg hc).symm.trans h
        obtain ⟨hz, rfl⟩ := rN_some h
        exact hB
    · have h := (if_neg hc).symm.trans h
      obtain ⟨v3, ev3, h⟩ := bd h
      by_cases hc : a1 < v3
      · have h := (if_pos hc).symm.trans h
        obtain ⟨hz, rfl⟩ := rN_some h
        exact hB
      · have h := (if_neg hc).symm.trans h
        obtain ⟨hz, rfl⟩ := rN_some h
        exact hB
  · have h := (if_neg hc).symm.trans h
    obtain ⟨v4, ev4, h⟩ := bd h
    by_cases hc : v4 < 0
    · have h := (if_pos hc).symm.trans h
      obtain ⟨hz, rfl⟩ := rN_some h
      exact hB
    · have h := (if_neg hc).symm.trans h
      obtain ⟨v5, ev5, h⟩ := bd h
      by_cases hc : v5 < a1
      · have h := (if_pos hc).symm.trans h
        obtain ⟨hz, rfl⟩ := rN_some h
        exact hB
      · have h := (if_neg hc).symm.trans h
        obtain ⟨hz, rfl⟩ := rN_some h
        exact hB
theorem eX2_put_L101 (fu : Nat) {out : Mm}   (a0 : Nat) (a3 : Int32) (a4 : Int32)  (M : Mm) (hB : Lst0 M) (h : fX2_put_L101 fu  a0 a3 a4 M = some out) : Lst0 out := by
  unfold fX2_put_L101 at h
  obtain ⟨v1, ev1, h⟩ := bd h
  obtain ⟨M2, eM2, h⟩ := bd h
  have hB := e_pF hB eM2
  obtain rfl := Option.some.inj h
  exact hB
theorem eX2_put_L95 (fu : Nat) {out : Mm} (k3 : Nat → Option Nat → Int32 → Int32 → Int32 → Int32 → Mm → Option (Mm)) (hk3 : ∀ (b0 : Nat) (b1 : Option Nat) (b2 : Int32) (b3 : Int32) (b4 : Int32) (b5 : Int32)  (M : Mm), Lst0 M → k3 b0 b1 b2 b3 b4 b5 M = some out → Lst0 out) (a0 : Nat) (a1 : Option Nat) (a2 : Int32) (a3 : Int32) (a4 : Int32) (a5 : Int32)  (M : Mm) (hB : Lst0 M) (h : fX2_put_L95 fu k3 a0 a1 a2 a3 a4 a5 M = some out) : Lst0 out := by
  unfold fX2_put_L95 at h
  exact hk3 a0 a1 a2 a3 a4 (a5 + (1 : Int32)) M hB h
theorem eX2_put_L3 (fu : Nat) {out : Mm}   : ∀ (n : Nat) (a0 : Nat) (a1 : Option Nat) (a2 : Int32) (a3 : Int32) (a4 : Int32) (a5 : Int32)  (M : Mm), Lst0 M → fX2_put_L3 fu  n a0 a1 a2 a3 a4 a5 M = some out → Lst0 out := by
  intro n
  induction n with
  | zero =>
    intro a0 a1 a2 a3 a4 a5 M hB h
    have h : (none : Option (Mm)) = some out := h
    cases h
  | succ n ih =>
    intro a0 a1 a2 a3 a4 a5 M hB h
    rw [fX2_put_L3] at h
    by_cases hc : a4 ≤ a5
    · have h := (if_pos hc).symm.trans h
      exact eX2_put_L101 fu    a0 a3 a4 M hB h
    · have h := (if_neg hc).symm.trans h
      by_cases hc : (4096 : Int32) ≤ (a3 + a5)
      · have h := (if_pos hc).symm.trans h
        exact eX2_put_L101 fu    a0 a3 a4 M hB h
      · have h := (if_neg hc).symm.trans h
        obtain ⟨v1, ev1, h⟩ := bd h
        by_cases hc : (a3 + a5) < 0
        · have h := (if_pos hc).symm.trans h
          exact eX2_put_L95 fu (fun b0 b1 b2 b3 b4 b5 M => fX2_put_L3 fu  n b0 b1 b2 b3 b4 b5 M) ih  a0 a1 a2 a3 a4 a5 M hB h
        · have h := (if_neg hc).symm.trans h
          obtain ⟨v2, ev2, h⟩ := bd h
          obtain ⟨v3, ev3, h⟩ := bd h
          by_cases hc : (v3 &&& v1) = 0
          · have h := (if_pos hc).symm.trans h
            obtain ⟨v4, ev4, h⟩ := bd h
            obtain ⟨v5, ev5, h⟩ := bd h
            obtain ⟨M6, eM6, h⟩ := bd h
            have hB := e_pA hB eM6
            obtain ⟨v7, ev7, h⟩ := bd h
            obtain ⟨v9, M8, eM8, h⟩ := b2d h
            have hB := eX11_one fu  a1 (a2 + a5) M6 hB eM8
            obtain ⟨M10, eM10, h⟩ := bd h
            have hB := e_pA hB eM10
            obtain ⟨v11, ev11, h⟩ := bd h
            obtain ⟨M12, eM12, h⟩ := bd h
            have hB := e_pF hB eM12
            exact eX2_put_L95 fu (fun b0 b1 b2 b3 b4 b5 M => fX2_put_L3 fu  n b0 b1 b2 b3 b4 b5 M) ih  a0 a1 a2 a3 a4 a5 M12 hB h
          · have h := (if_neg hc).symm.trans h
            exact eX2_put_L95 fu (fun b0 b1 b2 b3 b4 b5 M => fX2_put_L3 fu  n b0 b1 b2 b3 b4 b5 M) ih  a0 a1 a2 a3 a4 a5 M hB h
theorem eX2_put (fu : Nat) {out : Mm}   (a0 : Nat) (a1 : Option Nat) (a2 : Int32) (a3 : Int32) (a4 : Int32)  (M : Mm) (hB : Lst0 M) (h : fX2_put fu  a0 a1 a2 a3 a4 M = some out) : Lst0 out := by
  unfold fX2_put at h
  exact eX2_put_L3 fu   fu a0 a1 a2 a3 a4 (0 : Int32) M hB h
theorem eX2_isWhole (fu : Nat) {out : Int32 × Mm}   (a0 : Nat)  (M : Mm) (hB : Lst0 M) (h : fX2_isWhole fu  a0 M = some out) : Lst0 out.2 := by
  unfold fX2_isWhole at h
  obtain ⟨v1, ev1, h⟩ := bd h
  by_cases hc : v1 < 0
  · have h := (if_pos hc).symm.trans h
    obtain ⟨hz, rfl⟩ := rN_some h
    exact hB
  · have h := (if_neg hc).symm.trans h
    obtain ⟨v2, ev2, h⟩ := bd h
    obtain ⟨v3, ev3, h⟩ := bd h
    by_cases hc : v2 = v3
    · have h := (if_pos hc).symm.trans h
      obtain ⟨hz, rfl⟩ := rN_some h
      exact hB
    · have h := (if_neg hc).symm.trans h
      obtain ⟨hz, rfl⟩ := rN_some h
      exact hB
theorem eX3_init (fu : Nat) {out : Mm}   (a0 : Nat) (a1 : Option Nat) (a2 : Option Nat)  (M : Mm) (hB : Lst0 M) (h : fX3_init fu  a0 a1 a2 M = some out) : Lst0 out := by
  unfold fX3_init at h
  obtain ⟨M1, eM1, h⟩ := bd h
  have hB := e_pG hB eM1
  obtain ⟨M2, eM2, h⟩ := bd h
  have hB := e_pG hB eM2
  obtain ⟨v3, M4, eM4, h⟩ := b2d h
  have hB := e_mkA (by decide) eM4
  obtain ⟨M5, eM5, h⟩ := bd h
  have hB := e_pG hB eM5
  obtain ⟨v6, M7, eM7, h⟩ := b2d h
  have hB := e_mkA (by decide) eM7
  obtain ⟨M8, eM8, h⟩ := bd h
  have hB := e_pG hB eM8
  obtain rfl := Option.some.inj h
  exact hB
theorem eX3_restart (fu : Nat) {out : Mm}   (a0 : Nat)  (M : Mm) (hB : Lst0 M) (h : fX3_restart fu  a0 M = some out) : Lst0 out := by
  unfold fX3_restart at h
  obtain ⟨M1, eM1, h⟩ := bd h
  have hB := e_pF hB eM1
  obtain rfl := Option.some.inj h
  exact hB
theorem eX11_four (fu : Nat) {out : Int32 × Mm}   (a0 : Option Nat) (a1 : Int32)  (M : Mm) (hB : Lst0 M) (h : fX11_four fu  a0 a1 M = some out) : Lst0 out.2 := by
  unfold fX11_four at h
  by_cases hc : a1 < 0
  · have h := (if_pos hc).symm.trans h
    obtain rfl := Option.some.inj h
    exact hB
  · have h := (if_neg hc).symm.trans h
    obtain ⟨v1, ev1, h⟩ := bd h
    by_cases hc : a1 ≤ (v1 - (4 : Int32))
    · have h := (if_pos hc).symm.trans h
      obtain ⟨v2, ev2, h⟩ := bd h
      obtain ⟨v3, ev3, h⟩ := bd h
      obtain ⟨v4, ev4, h⟩ := bd h
      obtain ⟨v5, ev5, h⟩ := bd h
      obtain rfl := Option.some.inj h
      exact hB
    · have h := (if_neg hc).symm.trans h
      obtain rfl := Option.some.inj h
      exact hB
theorem eX3_isForUs_L34 (fu : Nat) {out : Int32 × Mm}   (a2 : Int32) (a3 : Int32)  (M : Mm) (hB : Lst0 M) (h : fX3_isForUs_L34 fu  a2 a3 M = some out) : Lst0 out.2 := by
  unfold fX3_isForUs_L34 at h
  by_cases hc : a2 = (65535 : Int32)
  · have h := (if_pos hc).symm.trans h
    by_cases hc : a3 = (-1 : Int32)
    · have h := (if_pos hc).symm.trans h
      obtain ⟨hz, rfl⟩ := rN_some h
      exact hB
    · have h := (if_neg hc).symm.trans h
      obtain ⟨hz, rfl⟩ := rN_some h
      exact hB
  · have h := (if_neg hc).symm.trans h
    obtain ⟨hz, rfl⟩ := rN_some h
    exact hB
theorem eX3_isForUs (fu : Nat) {out : Int32 × Mm}   (a0 : Nat) (a1 : Option Nat)  (M : Mm) (hB : Lst0 M) (h : fX3_isForUs fu  a0 a1 M = some out) : Lst0 out.2 := by
  unfold fX3_isForUs at h
  obtain ⟨v2, M1, eM1, h⟩ := b2d h
  have hB := eX11_two fu  a1 (0 : Int32) M hB eM1
  obtain ⟨v4, M3, eM3, h⟩ := b2d h
  have hB := eX11_four fu  a1 (2 : Int32) M1 hB eM3
  obtain ⟨v5, ev5, h⟩ := bd h
  obtain ⟨v6, ev6, h⟩ := bd h
  by_cases hc : v2 = v6
  · have h := (if_pos hc).symm.trans h
    obtain ⟨v7, ev7, h⟩ := bd h
    obtain ⟨v8, ev8, h⟩ := bd h
    by_cases hc : v4 = v8
    · have h := (if_pos hc).symm.trans h
      obtain ⟨hz, rfl⟩ := rN_some h
      exact hB
    · have h := (if_neg hc).symm.trans h
      exact eX3_isForUs_L34 fu    v2 v4 M3 hB h
  · have h := (if_neg hc).symm.trans h
    exact eX3_isForUs_L34 fu    v2 v4 M3 hB h
theorem eX11_added_L67 (fu : Nat) {out : Int32 × Mm} (k20 : Option Nat → Int32 → Int32 → Int32 → Mm → Option (Int32 × Mm)) (hk20 : ∀ (b0 : Option Nat) (b4 : Int32) (b5 : Int32) (b6 : Int32)  (M : Mm), Lst0 M → k20 b0 b4 b5 b6 M = some out → Lst0 out.2) (a0 : Option Nat) (a4 : Int32) (a5 : Int32) (a6 : Int32)  (M : Mm) (hB : Lst0 M) (h : fX11_added_L67 fu k20 a0 a4 a5 a6 M = some out) : Lst0 out.2 := by
  unfold fX11_added_L67 at h
  exact hk20 a0 a4 a5 (a6 + (2 : Int32)) M hB h
theorem eX11_added_L20 (fu : Nat) {out : Int32 × Mm}   : ∀ (n : Nat) (a0 : Option Nat) (a4 : Int32) (a5 : Int32) (a6 : Int32)  (M : Mm), Lst0 M → fX11_added_L20 fu  n a0 a4 a5 a6 M = some out → Lst0 out.2 := by
  intro n
  induction n with
  | zero =>
    intro a0 a4 a5 a6 M hB h
    have h : (none : Option (Int32 × Mm)) = some out := h
    cases h
  | succ n ih =>
    intro a0 a4 a5 a6 M hB h
    rw [fX11_added_L20] at h
    by_cases hc : a5 ≤ a6
    · have h := (if_pos hc).symm.trans h
      obtain ⟨v1, ev1, h⟩ := bd h
      obtain rfl := Option.some.inj h
      exact hB
    · have h := (if_neg hc).symm.trans h
      obtain ⟨v2, ev2, h⟩ := bd h
      obtain ⟨v3, ev3, h⟩ := bd h
      by_cases hc : a5 ≤ (a6 + (1 : Int32))
      · have h := (if_pos hc).symm.trans h
        exact eX11_added_L67 fu (fun b0 b4 b5 b6 M => fX11_added_L20 fu  n b0 b4 b5 b6 M) ih  a0 v3 a5 a6 M hB h
      · have h := (if_neg hc).symm.trans h
        obtain ⟨v4, ev4, h⟩ := bd h
        exact eX11_added_L67 fu (fun b0 b4 b5 b6 M => fX11_added_L20 fu  n b0 b4 b5 b6 M) ih  a0 (v3 + (v4 &&& (255 : Int32))) a5 a6 M hB h
theorem eX11_added (fu : Nat) {out : Int32 × Mm}   (a0 : Option Nat) (a1 : Int32) (a2 : Int32) (a3 : Int32)  (M : Mm) (hB : Lst0 M) (h : fX11_added fu  a0 a1 a2 a3 M = some out) : Lst0 out.2 := by
  unfold fX11_added at h
  obtain ⟨v1, ev1, h⟩ := bd h
  exact eX11_added_L20 fu   fu a0 a3 (jmin (a1 + a2) v1) (jmax a1 (0 : Int32)) M hB h
theorem eX11_isHostNumber (fu : Nat) {out : Int32 × Mm}   (a0 : Int32)  (M : Mm) (hB : Lst0 M) (h : fX11_isHostNumber fu  a0 M = some out) : Lst0 out.2 := by
  unfold fX11_isHostNumber at h
  by_cases hc : (ushr a0 (24 : Int32)) < (1 : Int32)
  · have h := (if_pos hc).symm.trans h
    obtain ⟨hz, rfl⟩ := rN_some h
    exact hB
  · have h := (if_neg hc).symm.trans h
    by_cases hc : (223 : Int32) < (ushr a0 (24 : Int32))
    · have h := (if_pos hc).symm.trans h
      obtain ⟨hz, rfl⟩ := rN_some h
      exact hB
    · have h := (if_neg hc).symm.trans h
      by_cases hc : (ushr a0 (24 : Int32)) = (127 : Int32)
      · have h := (if_pos hc).symm.trans h
        obtain ⟨hz, rfl⟩ := rN_some h
        exact hB
      · have h := (if_neg hc).symm.trans h
        obtain ⟨hz, rfl⟩ := rN_some h
        exact hB
theorem eX3_indexOf_L92 (fu : Nat) {out : Int32 × Mm}   (a0 : Nat) (a1 : Int32) (a2 : Option Nat)  (M : Mm) (hB : Lst0 M) (h : fX3_indexOf_L92 fu  a0 a1 a2 M = some out) : Lst0 out.2 := by
  unfold fX3_indexOf_L92 at h
  obtain ⟨v1, ev1, h⟩ := bd h
  obtain ⟨v2, ev2, h⟩ := bd h
  obtain ⟨v3, ev3, h⟩ := bd h
  obtain ⟨v4, ev4, h⟩ := bd h
  obtain ⟨q5, eq5, h⟩ := bd h
  obtain ⟨M6, eM6, h⟩ := bd h
  have hB := eX2_begin fu q5 v1 a1 v2 v4 M hB eM6
  obtain ⟨v7, ev7, h⟩ := bd h
  obtain ⟨M8, eM8, h⟩ := bd h
  have hB := e_pF hB eM8
  obtain ⟨v9, ev9, h⟩ := bd h
  obtain rfl := Option.some.inj h
  exact hB
theorem eX3_indexOf_L50 (fu : Nat) {out : Int32 × Mm}   (a0 : Nat) (a1 : Int32)  (M : Mm) (hB : Lst0 M) (h : fX3_indexOf_L50 fu  a0 a1 M = some out) : Lst0 out.2 := by
  unfold fX3_indexOf_L50 at h
  obtain ⟨v1, ev1, h⟩ := bd h
  by_cases hc : v1 < (4 : Int32)
  · have h := (if_pos hc).symm.trans h
    obtain ⟨v2, ev2, h⟩ := bd h
    obtain ⟨v3, ev3, h⟩ := bd h
    obtain ⟨v4, ev4, h⟩ := bd h
    by_cases hc : v4 = none
    · have h := (if_pos hc).symm.trans h
      obtain ⟨v5, M6, eM6, h⟩ := b2d h
      have hB := e_mkO (by decide) eM6
      obtain ⟨M7, eM7, h⟩ := bd h
      have hB := eX2_init fu v5  M6 hB eM7
      obtain ⟨v8, ev8, h⟩ := bd h
      obtain ⟨v9, ev9, h⟩ := bd h
      obtain ⟨M10, eM10, h⟩ := bd h
      have hB := e_pB hB eM10
      exact eX3_indexOf_L92 fu    a0 a1 (some v5) M10 hB h
    · have h := (if_neg hc).symm.trans h
      exact eX3_indexOf_L92 fu    a0 a1 v4 M hB h
  · have h := (if_neg hc).symm.trans h
    obtain rfl := Option.some.inj h
    exact hB
theorem eX3_indexOf_L44 (fu : Nat) {out : Int32 × Mm} (k2 : Nat → Int32 → Int32 → Mm → Option (Int32 × Mm)) (hk2 : ∀ (b0 : Nat) (b1 : Int32) (b2 : Int32)  (M : Mm), Lst0 M → k2 b0 b1 b2 M = some out → Lst0 out.2) (a0 : Nat) (a1 : Int32) (a2 : Int32)  (M : Mm) (hB : Lst0 M) (h : fX3_indexOf_L44 fu k2 a0 a1 a2 M = some out) : Lst0 out.2 := by
  unfold fX3_indexOf_L44 at h
  exact hk2 a0 a1 (a2 + (1 : Int32)) M hB h
theorem eX3_indexOf_L2 (fu : Nat) {out : Int32 × Mm}   : ∀ (n : Nat) (a0 : Nat) (a1 : Int32) (a2 : Int32)  (M : Mm), Lst0 M → fX3_indexOf_L2 fu  n a0 a1 a2 M = some out → Lst0 out.2 := by
  intro n
  induction n with
  | zero =>
    intro a0 a1 a2 M hB h
    have h : (none : Option (Int32 × Mm)) = some out := h
    cases h
  | succ n ih =>
    intro a0 a1 a2 M hB h
    rw [fX3_indexOf_L2] at h
    obtain ⟨v1, ev1, h⟩ := bd h
    by_cases hc : v1 ≤ a2
    · have h := (if_pos hc).symm.trans h
      exact eX3_indexOf_L50 fu    a0 a1 M hB h
    · have h := (if_neg hc).symm.trans h
      by_cases hc : (4 : Int32) ≤ a2
      · have h := (if_pos hc).symm.trans h
        exact eX3_indexOf_L50 fu    a0 a1 M hB h
      · have h := (if_neg hc).symm.trans h
        obtain ⟨v2, ev2, h⟩ := bd h
        obtain ⟨v3, ev3, h⟩ := bd h
        by_cases hc : v3 = none
        · have h := (if_pos hc).symm.trans h
          exact eX3_indexOf_L44 fu (fun b0 b1 b2 M => fX3_indexOf_L2 fu  n b0 b1 b2 M) ih  a0 a1 a2 M hB h
        · have h := (if_neg hc).symm.trans h
          obtain ⟨v4, ev4, h⟩ := bd h
          obtain ⟨v5, ev5, h⟩ := bd h
          obtain ⟨q6, eq6, h⟩ := bd h
          obtain ⟨v8, M7, eM7, h⟩ := b2d h
          have hB := eX2_isOf fu q6 v4 a1 v5 M hB eM7
          by_cases hc : v8 = 0
          · have h := (if_pos hc).symm.trans h
            exact eX3_indexOf_L44 fu (fun b0 b1 b2 M => fX3_indexOf_L2 fu  n b0 b1 b2 M) ih  a0 a1 a2 M7 hB h
          · have h := (if_neg hc).symm.trans h
            obtain rfl := Option.some.inj h
            exact hB
theorem eX3_indexOf (fu : Nat) {out : Int32 × Mm}   (a0 : Nat) (a1 : Int32)  (M : Mm) (hB : Lst0 M) (h : fX3_indexOf fu  a0 a1 M = some out) : Lst0 out.2 := by
  unfold fX3_indexOf at h
  exact eX3_indexOf_L2 fu   fu a0 a1 (0 : Int32) M hB h
theorem eX3_dropDatagram_L59 (fu : Nat) {out : Mm}   (a0 : Nat) (a2 : Option Nat)  (M : Mm) (hB : Lst0 M) (h : fX3_dropDatagram_L59 fu  a0 a2 M = some out) : Lst0 out := by
  unfold fX3_dropDatagram_L59 at h
  obtain ⟨v1, ev1, h⟩ := bd h
  obtain ⟨M2, eM2, h⟩ := bd h
  have hB := e_pF hB eM2
  obtain ⟨v3, ev3, h⟩ := bd h
  obtain ⟨v4, ev4, h⟩ := bd h
  obtain ⟨M5, eM5, h⟩ := bd h
  have hB := e_pB hB eM5
  obtain rfl := Option.some.inj h
  exact hB
theorem eX3_dropDatagram_L22 (fu : Nat) {out : Mm}   : ∀ (n : Nat) (a0 : Nat) (a2 : Option Nat) (a3 : Int32)  (M : Mm), Lst0 M → fX3_dropDatagram_L22 fu  n a0 a2 a3 M = some out → Lst0 out := by
  intro n
  induction n with
  | zero =>
    intro a0 a2 a3 M hB h
    have h : (none : Option (Mm)) = some out := h
    cases h
  | succ n ih =>
    intro a0 a2 a3 M hB h
    rw [fX3_dropDatagram_L22] at h
    obtain ⟨v1, ev1, h⟩ := bd h
    by_cases hc : v1 ≤ (a3 + (1 : Int32))
    · have h := (if_pos hc).symm.trans h
      exact eX3_dropDatagram_L59 fu    a0 a2 M hB h
    · have h := (if_neg hc).symm.trans h
      by_cases hc : (4 : Int32) ≤ (a3 + (1 : Int32))
      · have h := (if_pos hc).symm.trans h
        exact eX3_dropDatagram_L59 fu    a0 a2 M hB h
      · have h := (if_neg hc).symm.trans h
        obtain ⟨v2, ev2, h⟩ := bd h
        obtain ⟨v3, ev3, h⟩ := bd h
        obtain ⟨v4, ev4, h⟩ := bd h
        obtain ⟨M5, eM5, h⟩ := bd h
        have hB := e_pB hB eM5
        exact ih a0 a2 (a3 + (1 : Int32)) M5 hB h
theorem eX3_dropDatagram (fu : Nat) {out : Mm}   (a0 : Nat) (a1 : Int32)  (M : Mm) (hB : Lst0 M) (h : fX3_dropDatagram fu  a0 a1 M = some out) : Lst0 out := by
  unfold fX3_dropDatagram at h
  by_cases hc : a1 < 0
  · have h := (if_pos hc).symm.trans h
    obtain rfl := Option.some.inj h
    exact hB
  · have h := (if_neg hc).symm.trans h
    obtain ⟨v1, ev1, h⟩ := bd h
    by_cases hc : a1 < v1
    · have h := (if_pos hc).symm.trans h
      obtain ⟨v2, ev2, h⟩ := bd h
      obtain ⟨v3, ev3, h⟩ := bd h
      exact eX3_dropDatagram_L22 fu   fu a0 v3 a1 M hB h
    · have h := (if_neg hc).symm.trans h
      obtain rfl := Option.some.inj h
      exact hB
theorem eX3_gather_L157 (fu : Nat) {out : Int32 × Mm}   (a0 : Nat) (a5 : Int32) (a6 : Option Nat)  (M : Mm) (hB : Lst0 M) (h : fX3_gather_L157 fu  a0 a5 a6 M = some out) : Lst0 out.2 := by
  unfold fX3_gather_L157 at h
  obtain ⟨q1, eq1, h⟩ := bd h
  obtain ⟨v3, M2, eM2, h⟩ := b2d h
  have hB := eX2_isWhole fu q1  M hB eM2
  by_cases hc : v3 = 0
  · have h := (if_pos hc).symm.trans h
    obtain ⟨hz, rfl⟩ := rN_some h
    exact hB
  · have h := (if_neg hc).symm.trans h
    obtain ⟨q4, eq4, h⟩ := bd h
    obtain ⟨M5, eM5, h⟩ := bd h
    have hB := eX3_dropDatagram fu q4 a5 M2 hB eM5
    obtain ⟨v6, ev6, h⟩ := bd h
    obtain ⟨v7, ev7, h⟩ := bd h
    obtain ⟨v8, ev8, h⟩ := bd h
    obtain ⟨M9, eM9, h⟩ := bd h
    have hB := e_pA hB eM9
    obtain ⟨v10, ev10, h⟩ := bd h
    obtain ⟨M11, eM11, h⟩ := bd h
    have hB := e_pG hB eM11
    obtain ⟨M12, eM12, h⟩ := bd h
    have hB := e_pF hB eM12
    obtain ⟨v13, ev13, h⟩ := bd h
    obtain ⟨M14, eM14, h⟩ := bd h
    have hB := e_pF hB eM14
    obtain ⟨hz, rfl⟩ := rN_some h
    exact hB
theorem eX3_gather_L47 (fu : Nat) {out : Int32 × Mm}   (a0 : Nat) (a1 : Int32) (a3 : Int32) (a4 : Int32)  (M : Mm) (hB : Lst0 M) (h : fX3_gather_L47 fu  a0 a1 a3 a4 M = some out) : Lst0 out.2 := by
  unfold fX3_gather_L47 at h
  obtain ⟨v1, ev1, h⟩ := bd h
  by_cases hc : (a4 + v1) ≤ (4096 : Int32)
  · have h := (if_pos hc).symm.trans h
    obtain ⟨q2, eq2, h⟩ := bd h
    obtain ⟨v4, M3, eM3, h⟩ := b2d h
    have hB := eX3_indexOf fu q2 a1 M hB eM3
    by_cases hc : v4 < 0
    · have h := (if_pos hc).symm.trans h
      obtain ⟨hz, rfl⟩ := rN_some h
      exact hB
    · have h := (if_neg hc).symm.trans h
      by_cases hc : v4 < (4 : Int32)
      · have h := (if_pos hc).symm.trans h
        obtain ⟨v5, ev5, h⟩ := bd h
        obtain ⟨v6, ev6, h⟩ := bd h
        by_cases hc : v6 = none
        · have h := (if_pos hc).symm.trans h
          obtain ⟨hz, rfl⟩ := rN_some h
          exact hB
        · have h := (if_neg hc).symm.trans h
          obtain ⟨v7, ev7, h⟩ := bd h
          obtain ⟨q8, eq8, h⟩ := bd h
          obtain ⟨v10, M9, eM9, h⟩ := b2d h
          have hB := eX2_agrees fu q8 (a4 + v7) a3 M3 hB eM9
          by_cases hc : v10 = 0
          · have h := (if_pos hc).symm.trans h
            obtain ⟨q18, eq18, h⟩ := bd h
            obtain ⟨M19, eM19, h⟩ := bd h
            have hB := eX3_dropDatagram fu q18 v4 M9 hB eM19
            obtain ⟨hz, rfl⟩ := rN_some h
            exact hB
          · have h := (if_neg hc).symm.trans h
            obtain ⟨v11, ev11, h⟩ := bd h
            obtain ⟨v12, ev12, h⟩ := bd h
            obtain ⟨v13, ev13, h⟩ := bd h
            obtain ⟨q14, eq14, h⟩ := bd h
            obtain ⟨M15, eM15, h⟩ := bd h
            have hB := eX2_put fu q14 v11 v12 a4 v13 M9 hB eM15
            by_cases hc : a3 = 0
            · have h := (if_pos hc).symm.trans h
              obtain ⟨v16, ev16, h⟩ := bd h
              obtain ⟨M17, eM17, h⟩ := bd h
              have hB := e_pF hB eM17
              exact eX3_gather_L157 fu    a0 v4 v6 M17 hB h
            · have h := (if_neg hc).symm.trans h
              exact eX3_gather_L157 fu    a0 v4 v6 M15 hB h
      · have h := (if_neg hc).symm.trans h
        obtain ⟨hz, rfl⟩ := rN_some h
        exact hB
  · have h := (if_neg hc).symm.trans h
    obtain ⟨hz, rfl⟩ := rN_some h
    exact hB
theorem eX3_gather_L13 (fu : Nat) {out : Int32 × Mm}   (a0 : Nat) (a1 : Int32) (a2 : Int32) (s0 : Int32) (M : Mm) (hB : Lst0 M) (h : fX3_gather_L13 fu  a0 a1 a2 s0 M = some out) : Lst0 out.2 := by
  unfold fX3_gather_L13 at h
  by_cases hc : s0 = 0
  · have h := (if_pos hc).symm.trans h
    exact eX3_gather_L47 fu    a0 a1 s0 ((a2 &&& (8191 : Int32)) * (8 : Int32)) M hB h
  · have h := (if_neg hc).symm.trans h
    obtain ⟨v1, ev1, h⟩ := bd h
    by_cases hc : v1 < (8 : Int32)
    · have h := (if_pos hc).symm.trans h
      obtain ⟨hz, rfl⟩ := rN_some h
      exact hB
    · have h := (if_neg hc).symm.trans h
      obtain ⟨v2, ev2, h⟩ := bd h
      by_cases hc : (irm v2 (8 : Int32)) = 0
      · have h := (if_pos hc).symm.trans h
        exact eX3_gather_L47 fu    a0 a1 s0 ((a2 &&& (8191 : Int32)) * (8 : Int32)) M hB h
      · have h := (if_neg hc).symm.trans h
        obtain ⟨hz, rfl⟩ := rN_some h
        exact hB
theorem eX3_gather (fu : Nat) {out : Int32 × Mm}   (a0 : Nat) (a1 : Int32) (a2 : Int32)  (M : Mm) (hB : Lst0 M) (h : fX3_gather fu  a0 a1 a2 M = some out) : Lst0 out.2 := by
  unfold fX3_gather at h
  by_cases hc : (a2 &&& (8192 : Int32)) = 0
  · have h := (if_pos hc).symm.trans h
    exact eX3_gather_L13 fu    a0 a1 a2 (0 : Int32) M hB h
  · have h := (if_neg hc).symm.trans h
    exact eX3_gather_L13 fu    a0 a1 a2 (1 : Int32) M hB h
theorem eX3_readPacket (fu : Nat) {out : Int32 × Mm}   (a0 : Nat) (a1 : Option Nat) (a2 : Int32)  (M : Mm) (hB : Lst0 M) (h : fX3_readPacket fu  a0 a1 a2 M = some out) : Lst0 out.2 := by
  unfold fX3_readPacket at h
  obtain ⟨v2, M1, eM1, h⟩ := b2d h
  have hB := eX11_one fu  a1 (14 : Int32) M hB eM1
  obtain ⟨v4, M3, eM3, h⟩ := b2d h
  have hB := eX11_two fu  a1 (16 : Int32) M1 hB eM3
  by_cases hc : a2 < (20 : Int32)
  · have h := (if_pos hc).symm.trans h
    obtain ⟨hz, rfl⟩ := rN_some h
    exact hB
  · have h := (if_neg hc).symm.trans h
    obtain ⟨v6, M5, eM5, h⟩ := b2d h
    have hB := eX11_one fu  a1 (14 : Int32) M3 hB eM5
    by_cases hc : (v6 >>> ((4 : Int32) &&& 31)) = (4 : Int32)
    · have h := (if_pos hc).symm.trans h
      by_cases hc : (20 : Int32) ≤ ((v2 &&& (15 : Int32)) * (4 : Int32))
      · have h := (if_pos hc).symm.trans h
        by_cases hc : v4 < ((v2 &&& (15 : Int32)) * (4 : Int32))
        · have h := (if_pos hc).symm.trans h
          obtain ⟨hz, rfl⟩ := rN_some h
          exact hB
        · have h := (if_neg hc).symm.trans h
          by_cases hc : a2 < v4
          · have h := (if_pos hc).symm.trans h
            obtain ⟨hz, rfl⟩ := rN_some h
            exact hB
          · have h := (if_neg hc).symm.trans h
            obtain ⟨v8, M7, eM7, h⟩ := b2d h
            have hB := eX11_added fu  a1 (14 : Int32) ((v2 &&& (15 : Int32)) * (4 : Int32)) (0 : Int32) M5 hB eM7
            by_cases hc : v8 = (65535 : Int32)
            · have h := (if_pos hc).symm.trans h
              obtain ⟨v10, M9, eM9, h⟩ := b2d h
              have hB := eX11_four fu  a1 (26 : Int32) M7 hB eM9
              obtain ⟨M11, eM11, h⟩ := bd h
              have hB := e_pF hB eM11
              obtain ⟨v13, M12, eM12, h⟩ := b2d h
              have hB := eX11_four fu  a1 (30 : Int32) M11 hB eM12
              obtain ⟨v14, ev14, h⟩ := bd h
              obtain ⟨v15, ev15, h⟩ := bd h
              by_cases hc : v13 = v15
              · have h := (if_pos hc).symm.trans h
                obtain ⟨v16, ev16, h⟩ := bd h
                obtain ⟨v17, ev17, h⟩ := bd h
                obtain ⟨v18, ev18, h⟩ := bd h
                by_cases hc : v16 = v18
                · have h := (if_pos hc).symm.trans h
                  obtain ⟨hz, rfl⟩ := rN_some h
                  exact hB
                · have h := (if_neg hc).symm.trans h
                  obtain ⟨v19, ev19, h⟩ := bd h
                  obtain ⟨v21, M20, eM20, h⟩ := b2d h
                  have hB := eX11_isHostNumber fu  v19 M12 hB eM20
                  by_cases hc : v21 = 0
                  · have h := (if_pos hc).symm.trans h
                    obtain ⟨hz, rfl⟩ := rN_some h
                    exact hB
                  · have h := (if_neg hc).symm.trans h
                    obtain ⟨v23, M22, eM22, h⟩ := b2d h
                    have hB := eX11_one fu  a1 (23 : Int32) M20 hB eM22
                    obtain ⟨M24, eM24, h⟩ := bd h
                    have hB := e_pF hB eM24
                    obtain ⟨M25, eM25, h⟩ := bd h
                    have hB := e_pG hB eM25
                    obtain ⟨M26, eM26, h⟩ := bd h
                    have hB := e_pF hB eM26
                    obtain ⟨M27, eM27, h⟩ := bd h
                    have hB := e_pF hB eM27
                    obtain ⟨v29, M28, eM28, h⟩ := b2d h
                    have hB := eX11_two fu  a1 (20 : Int32) M27 hB eM28
                    by_cases hc : (v29 &&& (16383 : Int32)) = 0
                    · have h := (if_pos hc).symm.trans h
                      obtain ⟨hz, rfl⟩ := rN_some h
                      exact hB
                    · have h := (if_neg hc).symm.trans h
                      obtain ⟨v31, M30, eM30, h⟩ := b2d h
                      have hB := eX11_two fu  a1 (18 : Int32) M28 hB eM30
                      obtain ⟨q32, eq32, h⟩ := bd h
                      obtain ⟨v34, M33, eM33, h⟩ := b2d h
                      have hB := eX3_gather fu q32 v31 (v29 &&& (16383 : Int32)) M30 hB eM33
                      by_cases hc : v34 = 0
                      · have h := (if_pos hc).symm.trans h
                        obtain ⟨hz, rfl⟩ := rN_some h
                        exact hB
                      · have h := (if_neg hc).symm.trans h
                        obtain ⟨hz, rfl⟩ := rN_some h
                        exact hB
              · have h := (if_neg hc).symm.trans h
                obtain ⟨hz, rfl⟩ := rN_some h
                exact hB
            · have h := (if_neg hc).symm.trans h
              obtain ⟨hz, rfl⟩ := rN_some h
              exact hB
      · have h := (if_neg hc).symm.trans h
        obtain ⟨hz, rfl⟩ := rN_some h
        exact hB
    · have h := (if_neg hc).symm.trans h
      obtain ⟨hz, rfl⟩ := rN_some h
      exact hB
theorem eX3_read (fu : Nat) {out : Int32 × Mm}   (a0 : Nat) (a1 : Option Nat) (a2 : Int32)  (M : Mm) (hB : Lst0 M) (h : fX3_read fu  a0 a1 a2 M = some out) : Lst0 out.2 := by
  unfold fX3_read at h
  by_cases hc : a2 < (14 : Int32)
  · have h := (if_pos hc).symm.trans h
    obtain rfl := Option.some.inj h
    exact hB
  · have h := (if_neg hc).symm.trans h
    obtain ⟨q1, eq1, h⟩ := bd h
    obtain ⟨v3, M2, eM2, h⟩ := b2d h
    have hB := eX3_isForUs fu q1 a1 M hB eM2
    by_cases hc : v3 = 0
    · have h := (if_pos hc).symm.trans h
      obtain rfl := Option.some.inj h
      exact hB
    · have h := (if_neg hc).symm.trans h
      obtain ⟨v5, M4, eM4, h⟩ := b2d h
      have hB := eX11_two fu  a1 (12 : Int32) M2 hB eM4
      by_cases hc : v5 = (2054 : Int32)
      · have h := (if_pos hc).symm.trans h
        obtain rfl := Option.some.inj h
        exact hB
      · have h := (if_neg hc).symm.trans h
        by_cases hc : v5 = (2048 : Int32)
        · have h := (if_pos hc).symm.trans h
          obtain ⟨q6, eq6, h⟩ := bd h
          obtain ⟨v8, M7, eM7, h⟩ := b2d h
          have hB := eX3_readPacket fu q6 a1 (a2 - (14 : Int32)) M4 hB eM7
          by_cases hc : v8 = 0
          · have h := (if_pos hc).symm.trans h
            obtain rfl := Option.some.inj h
            exact hB
          · have h := (if_neg hc).symm.trans h
            obtain ⟨v9, ev9, h⟩ := bd h
            obtain rfl := Option.some.inj h
            exact hB
        · have h := (if_neg hc).symm.trans h
          obtain rfl := Option.some.inj h
          exact hB
theorem eX3_earliest (fu : Nat) {out : Int32 × Mm}   (a0 : Nat)  (M : Mm) (hB : Lst0 M) (h : fX3_earliest fu  a0 M = some out) : Lst0 out.2 := by
  unfold fX3_earliest at h
  obtain ⟨v1, ev1, h⟩ := bd h
  obtain ⟨v2, ev2, h⟩ := bd h
  obtain ⟨v3, ev3, h⟩ := bd h
  by_cases hc : v3 = 0
  · have h := (if_pos hc).symm.trans h
    obtain rfl := Option.some.inj h
    exact hB
  · have h := (if_neg hc).symm.trans h
    by_cases hc : v2 = none
    · have h := (if_pos hc).symm.trans h
      obtain rfl := Option.some.inj h
      exact hB
    · have h := (if_neg hc).symm.trans h
      obtain ⟨v4, ev4, h⟩ := bd h
      obtain rfl := Option.some.inj h
      exact hB
theorem eX3_expire (fu : Nat) {out : Int32 × Mm}   (a0 : Nat) (a1 : Int32)  (M : Mm) (hB : Lst0 M) (h : fX3_expire fu  a0 a1 M = some out) : Lst0 out.2 := by
  unfold fX3_expire at h
  obtain ⟨q1, eq1, h⟩ := bd h
  obtain ⟨v3, M2, eM2, h⟩ := b2d h
  have hB := eX3_earliest fu q1  M hB eM2
  by_cases hc : v3 = a1
  · have h := (if_pos hc).symm.trans h
    obtain ⟨q4, eq4, h⟩ := bd h
    obtain ⟨M5, eM5, h⟩ := bd h
    have hB := eX3_dropDatagram fu q4 (0 : Int32) M2 hB eM5
    obtain ⟨hz, rfl⟩ := rN_some h
    exact hB
  · have h := (if_neg hc).symm.trans h
    obtain ⟨hz, rfl⟩ := rN_some h
    exact hB
theorem eX11_putFour (fu : Nat) {out : Mm}   (a0 : Option Nat) (a1 : Int32) (a2 : Int32)  (M : Mm) (hB : Lst0 M) (h : fX11_putFour fu  a0 a1 a2 M = some out) : Lst0 out := by
  unfold fX11_putFour at h
  by_cases hc : a1 < 0
  · have h := (if_pos hc).symm.trans h
    obtain rfl := Option.some.inj h
    exact hB
  · have h := (if_neg hc).symm.trans h
    obtain ⟨v1, ev1, h⟩ := bd h
    by_cases hc : (v1 - (4 : Int32)) < a1
    · have h := (if_pos hc).symm.trans h
      obtain rfl := Option.some.inj h
      exact hB
    · have h := (if_neg hc).symm.trans h
      obtain ⟨M2, eM2, h⟩ := bd h
      have hB := e_pA hB eM2
      obtain ⟨M3, eM3, h⟩ := bd h
      have hB := e_pA hB eM3
      obtain ⟨M4, eM4, h⟩ := bd h
      have hB := e_pA hB eM4
      obtain ⟨M5, eM5, h⟩ := bd h
      have hB := e_pA hB eM5
      obtain rfl := Option.some.inj h
      exact hB
theorem eX11_putTwo (fu : Nat) {out : Mm}   (a0 : Option Nat) (a1 : Int32) (a2 : Int32)  (M : Mm) (hB : Lst0 M) (h : fX11_putTwo fu  a0 a1 a2 M = some out) : Lst0 out := by
  unfold fX11_putTwo at h
  by_cases hc : a1 < 0
  · have h := (if_pos hc).symm.trans h
    obtain rfl := Option.some.inj h
    exact hB
  · have h := (if_neg hc).symm.trans h
    obtain ⟨v1, ev1, h⟩ := bd h
    by_cases hc : (v1 - (2 : Int32)) < a1
    · have h := (if_pos hc).symm.trans h
      obtain rfl := Option.some.inj h
      exact hB
    · have h := (if_neg hc).symm.trans h
      obtain ⟨M2, eM2, h⟩ := bd h
      have hB := e_pA hB eM2
      obtain ⟨M3, eM3, h⟩ := bd h
      have hB := e_pA hB eM3
      obtain rfl := Option.some.inj h
      exact hB
theorem eX4_fillHeader (fu : Nat) {out : Mm}   (a0 : Nat) (a1 : Int32) (a2 : Int32) (a3 : Int32)  (M : Mm) (hB : Lst0 M) (h : fX4_fillHeader fu  a0 a1 a2 a3 M = some out) : Lst0 out := by
  unfold fX4_fillHeader at h
  obtain ⟨v1, ev1, h⟩ := bd h
  obtain ⟨M2, eM2, h⟩ := bd h
  have hB := eX11_putTwo fu  v1 (14 : Int32) (17664 : Int32) M hB eM2
  obtain ⟨v3, ev3, h⟩ := bd h
  obtain ⟨M4, eM4, h⟩ := bd h
  have hB := eX11_putTwo fu  v3 (16 : Int32) ((20 : Int32) + a3) M2 hB eM4
  obtain ⟨v5, ev5, h⟩ := bd h
  obtain ⟨v6, ev6, h⟩ := bd h
  obtain ⟨M7, eM7, h⟩ := bd h
  have hB := eX11_putTwo fu  v5 (18 : Int32) v6 M4 hB eM7
  obtain ⟨v8, ev8, h⟩ := bd h
  obtain ⟨M9, eM9, h⟩ := bd h
  have hB := eX11_putTwo fu  v8 (20 : Int32) (16384 : Int32) M7 hB eM9
  obtain ⟨v10, ev10, h⟩ := bd h
  obtain ⟨M11, eM11, h⟩ := bd h
  have hB := eX11_putTwo fu  v10 (22 : Int32) ((16384 : Int32) ||| a2) M9 hB eM11
  obtain ⟨v12, ev12, h⟩ := bd h
  obtain ⟨M13, eM13, h⟩ := bd h
  have hB := eX11_putTwo fu  v12 (24 : Int32) (0 : Int32) M11 hB eM13
  obtain ⟨v14, ev14, h⟩ := bd h
  obtain ⟨v15, ev15, h⟩ := bd h
  obtain ⟨M16, eM16, h⟩ := bd h
  have hB := eX11_putFour fu  v14 (26 : Int32) v15 M13 hB eM16
  obtain ⟨v17, ev17, h⟩ := bd h
  obtain ⟨M18, eM18, h⟩ := bd h
  have hB := eX11_putFour fu  v17 (30 : Int32) a1 M16 hB eM18
  obtain ⟨v19, ev19, h⟩ := bd h
  obtain ⟨v20, ev20, h⟩ := bd h
  obtain ⟨v22, M21, eM21, h⟩ := b2d h
  have hB := eX11_added fu  v20 (14 : Int32) (20 : Int32) (0 : Int32) M18 hB eM21
  obtain ⟨M23, eM23, h⟩ := bd h
  have hB := eX11_putTwo fu  v19 (24 : Int32) (v22 ^^^ (-1 : Int32)) M21 hB eM23
  obtain ⟨v24, ev24, h⟩ := bd h
  obtain ⟨M25, eM25, h⟩ := bd h
  have hB := e_pF hB eM25
  obtain rfl := Option.some.inj h
  exact hB
theorem eX4_entryOf_L2 (fu : Nat) {out : Int32 × Mm}   : ∀ (n : Nat) (a0 : Nat) (a1 : Int32) (a2 : Int32)  (M : Mm), Lst0 M → fX4_entryOf_L2 fu  n a0 a1 a2 M = some out → Lst0 out.2 := by
  intro n
  induction n with
  | zero =>
    intro a0 a1 a2 M hB h
    have h : (none : Option (Int32 × Mm)) = some out := h
    cases h
  | succ n ih =>
    intro a0 a1 a2 M hB h
    rw [fX4_entryOf_L2] at h
    obtain ⟨v1, ev1, h⟩ := bd h
    by_cases hc : v1 ≤ a2
    · have h := (if_pos hc).symm.trans h
      obtain rfl := Option.some.inj h
      exact hB
    · have h := (if_neg hc).symm.trans h
      by_cases hc : (16 : Int32) ≤ a2
      · have h := (if_pos hc).symm.trans h
        obtain rfl := Option.some.inj h
        exact hB
      · have h := (if_neg hc).symm.trans h
        obtain ⟨v2, ev2, h⟩ := bd h
        obtain ⟨v3, ev3, h⟩ := bd h
        by_cases hc : v3 = a1
        · have h := (if_pos hc).symm.trans h
          obtain rfl := Option.some.inj h
          exact hB
        · have h := (if_neg hc).symm.trans h
          exact ih a0 a1 (a2 + (1 : Int32)) M hB h
theorem eX4_entryOf (fu : Nat) {out : Int32 × Mm}   (a0 : Nat) (a1 : Int32)  (M : Mm) (hB : Lst0 M) (h : fX4_entryOf fu  a0 a1 M = some out) : Lst0 out.2 := by
  unfold fX4_entryOf at h
  exact eX4_entryOf_L2 fu   fu a0 a1 (0 : Int32) M hB h
theorem eX4_counting (fu : Nat) {out : Int32 × Mm}   (a0 : Nat) (a1 : Int32)  (M : Mm) (hB : Lst0 M) (h : fX4_counting fu  a0 a1 M = some out) : Lst0 out.2 := by
  unfold fX4_counting at h
  obtain ⟨q1, eq1, h⟩ := bd h
  obtain ⟨v3, M2, eM2, h⟩ := b2d h
  have hB := eX4_entryOf fu q1 a1 M hB eM2
  by_cases hc : v3 < 0
  · have h := (if_pos hc).symm.trans h
    obtain rfl := Option.some.inj h
    exact hB
  · have h := (if_neg hc).symm.trans h
    obtain ⟨v4, ev4, h⟩ := bd h
    obtain ⟨v5, ev5, h⟩ := bd h
    obtain ⟨v6, ev6, h⟩ := bd h
    obtain ⟨v7, ev7, h⟩ := bd h
    by_cases hc : (60000 : Int32) ≤ (v5 - v7)
    · have h := (if_pos hc).symm.trans h
      obtain rfl := Option.some.inj h
      exact hB
    · have h := (if_neg hc).symm.trans h
      obtain rfl := Option.some.inj h
      exact hB
theorem eX4_fillLink (fu : Nat) {out : Mm}   (a0 : Nat) (a1 : Option Nat) (a2 : Int32) (a3 : Int32) (a4 : Int32)  (M : Mm) (hB : Lst0 M) (h : fX4_fillLink fu  a0 a1 a2 a3 a4 M = some out) : Lst0 out := by
  unfold fX4_fillLink at h
  obtain ⟨M1, eM1, h⟩ := bd h
  have hB := eX11_putTwo fu  a1 (0 : Int32) a2 M hB eM1
  obtain ⟨M2, eM2, h⟩ := bd h
  have hB := eX11_putFour fu  a1 (2 : Int32) a3 M1 hB eM2
  obtain ⟨v3, ev3, h⟩ := bd h
  obtain ⟨M4, eM4, h⟩ := bd h
  have hB := eX11_putTwo fu  a1 (6 : Int32) v3 M2 hB eM4
  obtain ⟨v5, ev5, h⟩ := bd h
  obtain ⟨M6, eM6, h⟩ := bd h
  have hB := eX11_putFour fu  a1 (8 : Int32) v5 M4 hB eM6
  obtain ⟨M7, eM7, h⟩ := bd h
  have hB := eX11_putTwo fu  a1 (12 : Int32) a4 M6 hB eM7
  obtain rfl := Option.some.inj h
  exact hB
theorem eX6_init (fu : Nat) {out : Mm}   (a0 : Nat)  (M : Mm) (hB : Lst0 M) (h : fX6_init fu  a0 M = some out) : Lst0 out := by
  unfold fX6_init at h
  obtain ⟨v1, M2, eM2, h⟩ := b2d h
  have hB := e_mkA (by decide) eM2
  obtain ⟨M3, eM3, h⟩ := bd h
  have hB := e_pG hB eM3
  obtain rfl := Option.some.inj h
  exact hB
theorem eX10_put_L19 (fu : Nat) {out : Mm}   (a0 : Nat)  (M : Mm) (hB : Lst0 M) (h : fX10_put_L19 fu  a0 M = some out) : Lst0 out := by
  unfold fX10_put_L19 at h
  obtain ⟨v1, ev1, h⟩ := bd h
  obtain ⟨M2, eM2, h⟩ := bd h
  have hB := e_pF hB eM2
  obtain rfl := Option.some.inj h
  exact hB
theorem eX10_put_L88 (fu : Nat) {out : Mm}   : ∀ (n : Nat) (a0 : Nat) (a2 : Int32) (a4 : Option Nat) (a5 : Int32)  (M : Mm), Lst0 M → fX10_put_L88 fu  n a0 a2 a4 a5 M = some out → Lst0 out := by
  intro n
  induction n with
  | zero =>
    intro a0 a2 a4 a5 M hB h
    have h : (none : Option (Mm)) = some out := h
    cases h
  | succ n ih =>
    intro a0 a2 a4 a5 M hB h
    rw [fX10_put_L88] at h
    by_cases hc : (60 : Int32) ≤ a5
    · have h := (if_pos hc).symm.trans h
      obtain ⟨M1, eM1, h⟩ := bd h
      have hB := e_pF hB eM1
      obtain ⟨v2, ev2, h⟩ := bd h
      obtain ⟨M3, eM3, h⟩ := bd h
      have hB := e_pF hB eM3
      obtain ⟨v4, ev4, h⟩ := bd h
      obtain ⟨M5, eM5, h⟩ := bd h
      have hB := e_pF hB eM5
      obtain rfl := Option.some.inj h
      exact hB
    · have h := (if_neg hc).symm.trans h
      obtain ⟨v6, ev6, h⟩ := bd h
      obtain ⟨M7, eM7, h⟩ := bd h
      have hB := e_pA hB eM7
      exact ih a0 a2 a4 (a5 + (1 : Int32)) M7 hB h
theorem eX10_put_L73 (fu : Nat) {out : Mm}   (a0 : Nat) (a1 : Option Nat) (a2 : Int32) (a4 : Option Nat)  (M : Mm) (hB : Lst0 M) (h : fX10_put_L73 fu  a0 a1 a2 a4 M = some out) : Lst0 out := by
  unfold fX10_put_L73 at h
  obtain ⟨v1, ev1, h⟩ := bd h
  obtain ⟨M2, eM2, h⟩ := bd h
  have hB := e_cp hB eM2
  exact eX10_put_L88 fu   fu a0 a2 a4 a2 M2 hB h
theorem eX10_put (fu : Nat) {out : Mm}   (a0 : Nat) (a1 : Option Nat) (a2 : Int32)  (M : Mm) (hB : Lst0 M) (h : fX10_put fu  a0 a1 a2 M = some out) : Lst0 out := by
  unfold fX10_put at h
  by_cases hc : a2 < (42 : Int32)
  · have h := (if_pos hc).symm.trans h
    exact eX10_put_L19 fu    a0 M hB h
  · have h := (if_neg hc).symm.trans h
    by_cases hc : (1514 : Int32) < a2
    · have h := (if_pos hc).symm.trans h
      exact eX10_put_L19 fu    a0 M hB h
    · have h := (if_neg hc).symm.trans h
      obtain ⟨v1, ev1, h⟩ := bd h
      by_cases hc : a2 ≤ v1
      · have h := (if_pos hc).symm.trans h
        obtain ⟨v2, ev2, h⟩ := bd h
        by_cases hc : 0 ≤ (irm v2 (32 : Int32))
        · have h := (if_pos hc).symm.trans h
          obtain ⟨v3, ev3, h⟩ := bd h
          obtain ⟨v4, ev4, h⟩ := bd h
          by_cases hc : v4 = none
          · have h := (if_pos hc).symm.trans h
            obtain ⟨v5, M6, eM6, h⟩ := b2d h
            have hB := e_mkO (by decide) eM6
            obtain ⟨M7, eM7, h⟩ := bd h
            have hB := eX6_init fu v5  M6 hB eM7
            obtain ⟨v8, ev8, h⟩ := bd h
            obtain ⟨M9, eM9, h⟩ := bd h
            have hB := e_pB hB eM9
            exact eX10_put_L73 fu    a0 a1 a2 (some v5) M9 hB h
          · have h := (if_neg hc).symm.trans h
            exact eX10_put_L73 fu    a0 a1 a2 v4 M hB h
        · have h := (if_neg hc).symm.trans h
          obtain rfl := Option.some.inj h
          exact hB
      · have h := (if_neg hc).symm.trans h
        exact eX10_put_L19 fu    a0 M hB h
theorem eX4_waiterFor_L37 (fu : Nat) {out : Int32 × Mm} (k2 : Nat → Int32 → Int32 → Mm → Option (Int32 × Mm)) (hk2 : ∀ (b0 : Nat) (b1 : Int32) (b2 : Int32)  (M : Mm), Lst0 M → k2 b0 b1 b2 M = some out → Lst0 out.2) (a0 : Nat) (a1 : Int32) (a2 : Int32)  (M : Mm) (hB : Lst0 M) (h : fX4_waiterFor_L37 fu k2 a0 a1 a2 M = some out) : Lst0 out.2 := by
  unfold fX4_waiterFor_L37 at h
  exact hk2 a0 a1 (a2 + (1 : Int32)) M hB h
theorem eX4_waiterFor_L2 (fu : Nat) {out : Int32 × Mm}   : ∀ (n : Nat) (a0 : Nat) (a1 : Int32) (a2 : Int32)  (M : Mm), Lst0 M → fX4_waiterFor_L2 fu  n a0 a1 a2 M = some out → Lst0 out.2 := by
  intro n
  induction n with
  | zero =>
    intro a0 a1 a2 M hB h
    have h : (none : Option (Int32 × Mm)) = some out := h
    cases h
  | succ n ih =>
    intro a0 a1 a2 M hB h
    rw [fX4_waiterFor_L2] at h
    obtain ⟨v1, ev1, h⟩ := bd h
    by_cases hc : v1 ≤ a2
    · have h := (if_pos hc).symm.trans h
      obtain rfl := Option.some.inj h
      exact hB
    · have h := (if_neg hc).symm.trans h
      by_cases hc : (8 : Int32) ≤ a2
      · have h := (if_pos hc).symm.trans h
        obtain rfl := Option.some.inj h
        exact hB
      · have h := (if_neg hc).symm.trans h
        obtain ⟨v2, ev2, h⟩ := bd h
        obtain ⟨v3, ev3, h⟩ := bd h
        by_cases hc : v3 = none
        · have h := (if_pos hc).symm.trans h
          exact eX4_waiterFor_L37 fu (fun b0 b1 b2 M => fX4_waiterFor_L2 fu  n b0 b1 b2 M) ih  a0 a1 a2 M hB h
        · have h := (if_neg hc).symm.trans h
          obtain ⟨v4, ev4, h⟩ := bd h
          by_cases hc : v4 = a1
          · have h := (if_pos hc).symm.trans h
            obtain rfl := Option.some.inj h
            exact hB
          · have h := (if_neg hc).symm.trans h
            exact eX4_waiterFor_L37 fu (fun b0 b1 b2 M => fX4_waiterFor_L2 fu  n b0 b1 b2 M) ih  a0 a1 a2 M hB h
theorem eX4_waiterFor (fu : Nat) {out : Int32 × Mm}   (a0 : Nat) (a1 : Int32)  (M : Mm) (hB : Lst0 M) (h : fX4_waiterFor fu  a0 a1 M = some out) : Lst0 out.2 := by
  unfold fX4_waiterFor at h
  exact eX4_waiterFor_L2 fu   fu a0 a1 (0 : Int32) M hB h
theorem eX4_letWait_L107 (fu : Nat) {out : Int32 × Mm}   (a0 : Nat) (a2 : Int32) (a4 : Int32) (a5 : Option Nat)  (M : Mm) (hB : Lst0 M) (h : fX4_letWait_L107 fu  a0 a2 a4 a5 M = some out) : Lst0 out.2 := by
  unfold fX4_letWait_L107 at h
  obtain ⟨v1, ev1, h⟩ := bd h
  obtain ⟨v2, ev2, h⟩ := bd h
  obtain ⟨M3, eM3, h⟩ := bd h
  have hB := e_cp hB eM3
  obtain ⟨M4, eM4, h⟩ := bd h
  have hB := e_pF hB eM4
  obtain ⟨hz, rfl⟩ := rN_some h
  exact hB
theorem eX4_letWait_L78 (fu : Nat) {out : Int32 × Mm}   (a0 : Nat) (a1 : Int32) (a2 : Int32) (a4 : Int32) (a5 : Option Nat)  (M : Mm) (hB : Lst0 M) (h : fX4_letWait_L78 fu  a0 a1 a2 a4 a5 M = some out) : Lst0 out.2 := by
  unfold fX4_letWait_L78 at h
  by_cases hc : a4 = 0
  · have h := (if_pos hc).symm.trans h
    exact eX4_letWait_L107 fu    a0 a2 a4 a5 M hB h
  · have h := (if_neg hc).symm.trans h
    obtain ⟨M1, eM1, h⟩ := bd h
    have hB := e_pF hB eM1
    obtain ⟨v2, ev2, h⟩ := bd h
    obtain ⟨v3, ev3, h⟩ := bd h
    obtain ⟨M4, eM4, h⟩ := bd h
    have hB := e_pF hB eM4
    obtain ⟨M5, eM5, h⟩ := bd h
    have hB := e_pF hB eM5
    exact eX4_letWait_L107 fu    a0 a2 a4 a5 M5 hB h
theorem eX4_letWait_L48 (fu : Nat) {out : Int32 × Mm}   (a0 : Nat) (a1 : Int32) (a2 : Int32) (a3 : Int32) (a4 : Int32)  (M : Mm) (hB : Lst0 M) (h : fX4_letWait_L48 fu  a0 a1 a2 a3 a4 M = some out) : Lst0 out.2 := by
  unfold fX4_letWait_L48 at h
  obtain ⟨v1, ev1, h⟩ := bd h
  obtain ⟨v2, ev2, h⟩ := bd h
  by_cases hc : v2 = none
  · have h := (if_pos hc).symm.trans h
    obtain ⟨v3, M4, eM4, h⟩ := b2d h
    have hB := e_mkO (by decide) eM4
    obtain ⟨M5, eM5, h⟩ := bd h
    have hB := eX6_init fu v3  M4 hB eM5
    obtain ⟨v6, ev6, h⟩ := bd h
    obtain ⟨M7, eM7, h⟩ := bd h
    have hB := e_pB hB eM7
    exact eX4_letWait_L78 fu    a0 a1 a2 a4 (some v3) M7 hB h
  · have h := (if_neg hc).symm.trans h
    exact eX4_letWait_L78 fu    a0 a1 a2 a4 v2 M hB h
theorem eX4_letWait_L15 (fu : Nat) {out : Int32 × Mm}   (a0 : Nat) (a1 : Int32) (a2 : Int32) (a3 : Int32) (s0 : Int32) (M : Mm) (hB : Lst0 M) (h : fX4_letWait_L15 fu  a0 a1 a2 a3 s0 M = some out) : Lst0 out.2 := by
  unfold fX4_letWait_L15 at h
  by_cases hc : s0 = 0
  · have h := (if_pos hc).symm.trans h
    exact eX4_letWait_L48 fu    a0 a1 a2 a3 s0 M hB h
  · have h := (if_neg hc).symm.trans h
    obtain ⟨v1, ev1, h⟩ := bd h
    by_cases hc : v1 < (8 : Int32)
    · have h := (if_pos hc).symm.trans h
      obtain ⟨v2, ev2, h⟩ := bd h
      obtain ⟨v3, ev3, h⟩ := bd h
      obtain ⟨M4, eM4, h⟩ := bd h
      have hB := e_pF hB eM4
      exact eX4_letWait_L48 fu    a0 a1 a2 v2 s0 M4 hB h
    · have h := (if_neg hc).symm.trans h
      obtain ⟨hz, rfl⟩ := rN_some h
      exact hB
theorem eX4_letWait (fu : Nat) {out : Int32 × Mm}   (a0 : Nat) (a1 : Int32) (a2 : Int32)  (M : Mm) (hB : Lst0 M) (h : fX4_letWait fu  a0 a1 a2 M = some out) : Lst0 out.2 := by
  unfold fX4_letWait at h
  obtain ⟨q1, eq1, h⟩ := bd h
  obtain ⟨v3, M2, eM2, h⟩ := b2d h
  have hB := eX4_waiterFor fu q1 a1 M hB eM2
  by_cases hc : 0 ≤ v3
  · have h := (if_pos hc).symm.trans h
    exact eX4_letWait_L15 fu    a0 a1 a2 v3 (0 : Int32) M2 hB h
  · have h := (if_neg hc).symm.trans h
    exact eX4_letWait_L15 fu    a0 a1 a2 v3 (1 : Int32) M2 hB h
theorem eX4_fillArp (fu : Nat) {out : Mm}   (a0 : Nat) (a1 : Int32) (a2 : Int32) (a3 : Int32) (a4 : Int32)  (M : Mm) (hB : Lst0 M) (h : fX4_fillArp fu  a0 a1 a2 a3 a4 M = some out) : Lst0 out := by
  unfold fX4_fillArp at h
  obtain ⟨v1, ev1, h⟩ := bd h
  obtain ⟨M2, eM2, h⟩ := bd h
  have hB := eX11_putFour fu  v1 (14 : Int32) (67584 : Int32) M hB eM2
  obtain ⟨v3, ev3, h⟩ := bd h
  obtain ⟨M4, eM4, h⟩ := bd h
  have hB := eX11_putTwo fu  v3 (18 : Int32) (1540 : Int32) M2 hB eM4
  obtain ⟨v5, ev5, h⟩ := bd h
  obtain ⟨M6, eM6, h⟩ := bd h
  have hB := eX11_putTwo fu  v5 (20 : Int32) a1 M4 hB eM6
  obtain ⟨v7, ev7, h⟩ := bd h
  obtain ⟨v8, ev8, h⟩ := bd h
  obtain ⟨M9, eM9, h⟩ := bd h
  have hB := eX11_putTwo fu  v7 (22 : Int32) v8 M6 hB eM9
  obtain ⟨v10, ev10, h⟩ := bd h
  obtain ⟨v11, ev11, h⟩ := bd h
  obtain ⟨M12, eM12, h⟩ := bd h
  have hB := eX11_putFour fu  v10 (24 : Int32) v11 M9 hB eM12
  obtain ⟨v13, ev13, h⟩ := bd h
  obtain ⟨v14, ev14, h⟩ := bd h
  obtain ⟨M15, eM15, h⟩ := bd h
  have hB := eX11_putFour fu  v13 (28 : Int32) v14 M12 hB eM15
  obtain ⟨v16, ev16, h⟩ := bd h
  obtain ⟨M17, eM17, h⟩ := bd h
  have hB := eX11_putTwo fu  v16 (32 : Int32) a2 M15 hB eM17
  obtain ⟨v18, ev18, h⟩ := bd h
  obtain ⟨M19, eM19, h⟩ := bd h
  have hB := eX11_putFour fu  v18 (34 : Int32) a3 M17 hB eM19
  obtain ⟨v20, ev20, h⟩ := bd h
  obtain ⟨M21, eM21, h⟩ := bd h
  have hB := eX11_putFour fu  v20 (38 : Int32) a4 M19 hB eM21
  obtain rfl := Option.some.inj h
  exact hB
theorem eX4_fillAsk (fu : Nat) {out : Mm}   (a0 : Nat) (a1 : Int32)  (M : Mm) (hB : Lst0 M) (h : fX4_fillAsk fu  a0 a1 M = some out) : Lst0 out := by
  unfold fX4_fillAsk at h
  obtain ⟨q1, eq1, h⟩ := bd h
  obtain ⟨M2, eM2, h⟩ := bd h
  have hB := eX4_fillArp fu q1 (1 : Int32) (0 : Int32) (0 : Int32) a1 M hB eM2
  obtain ⟨v3, ev3, h⟩ := bd h
  obtain ⟨q4, eq4, h⟩ := bd h
  obtain ⟨M5, eM5, h⟩ := bd h
  have hB := eX4_fillLink fu q4 v3 (65535 : Int32) (-1 : Int32) (2054 : Int32) M2 hB eM5
  obtain rfl := Option.some.inj h
  exact hB
theorem eX4_send_L41 (fu : Nat) {out : Mm}   (a0 : Nat) (a3 : Int32) (s0 : Int32) (M : Mm) (hB : Lst0 M) (h : fX4_send_L41 fu  a0 a3 s0 M = some out) : Lst0 out := by
  unfold fX4_send_L41 at h
  obtain ⟨q1, eq1, h⟩ := bd h
  obtain ⟨v3, M2, eM2, h⟩ := b2d h
  have hB := eX4_counting fu q1 s0 M hB eM2
  by_cases hc : v3 < 0
  · have h := (if_pos hc).symm.trans h
    obtain ⟨q4, eq4, h⟩ := bd h
    obtain ⟨v6, M5, eM5, h⟩ := b2d h
    have hB := eX4_letWait fu q4 s0 ((34 : Int32) + a3) M2 hB eM5
    by_cases hc : v6 = 0
    · have h := (if_pos hc).symm.trans h
      obtain rfl := Option.some.inj h
      exact hB
    · have h := (if_neg hc).symm.trans h
      obtain ⟨q7, eq7, h⟩ := bd h
      obtain ⟨M8, eM8, h⟩ := bd h
      have hB := eX4_fillAsk fu q7 s0 M5 hB eM8
      obtain ⟨v9, ev9, h⟩ := bd h
      obtain ⟨v10, ev10, h⟩ := bd h
      obtain ⟨q11, eq11, h⟩ := bd h
      obtain ⟨M12, eM12, h⟩ := bd h
      have hB := eX10_put fu q11 v10 (42 : Int32) M8 hB eM12
      obtain rfl := Option.some.inj h
      exact hB
  · have h := (if_neg hc).symm.trans h
    obtain ⟨v13, ev13, h⟩ := bd h
    obtain ⟨v14, ev14, h⟩ := bd h
    obtain ⟨v15, ev15, h⟩ := bd h
    obtain ⟨v16, ev16, h⟩ := bd h
    obtain ⟨v17, ev17, h⟩ := bd h
    obtain ⟨q18, eq18, h⟩ := bd h
    obtain ⟨M19, eM19, h⟩ := bd h
    have hB := eX4_fillLink fu q18 v13 v15 v17 (2048 : Int32) M2 hB eM19
    obtain ⟨v20, ev20, h⟩ := bd h
    obtain ⟨v21, ev21, h⟩ := bd h
    obtain ⟨q22, eq22, h⟩ := bd h
    obtain ⟨M23, eM23, h⟩ := bd h
    have hB := eX10_put fu q22 v21 ((34 : Int32) + a3) M19 hB eM23
    obtain rfl := Option.some.inj h
    exact hB
theorem eX4_send (fu : Nat) {out : Mm}   (a0 : Nat) (a1 : Int32) (a2 : Int32) (a3 : Int32)  (M : Mm) (hB : Lst0 M) (h : fX4_send fu  a0 a1 a2 a3 M = some out) : Lst0 out := by
  unfold fX4_send at h
  by_cases hc : a3 < 0
  · have h := (if_pos hc).symm.trans h
    obtain rfl := Option.some.inj h
    exact hB
  · have h := (if_neg hc).symm.trans h
    by_cases hc : a3 ≤ (1480 : Int32)
    · have h := (if_pos hc).symm.trans h
      obtain ⟨q1, eq1, h⟩ := bd h
      obtain ⟨M2, eM2, h⟩ := bd h
      have hB := eX4_fillHeader fu q1 a1 a2 a3 M hB eM2
      obtain ⟨v3, ev3, h⟩ := bd h
      obtain ⟨v4, ev4, h⟩ := bd h
      by_cases hc : ((a1 ^^^ v3) &&& v4) = 0
      · have h := (if_pos hc).symm.trans h
        exact eX4_send_L41 fu    a0 a3 a1 M2 hB h
      · have h := (if_neg hc).symm.trans h
        obtain ⟨v5, ev5, h⟩ := bd h
        exact eX4_send_L41 fu    a0 a3 v5 M2 hB h
    · have h := (if_neg hc).symm.trans h
      obtain rfl := Option.some.inj h
      exact hB
theorem eX3_echo (fu : Nat) {out : Mm}   (a0 : Nat)  (M : Mm) (hB : Lst0 M) (h : fX3_echo fu  a0 M = some out) : Lst0 out := by
  unfold fX3_echo at h
  obtain ⟨v1, ev1, h⟩ := bd h
  by_cases hc : v1 < (8 : Int32)
  · have h := (if_pos hc).symm.trans h
    obtain rfl := Option.some.inj h
    exact hB
  · have h := (if_neg hc).symm.trans h
    obtain ⟨v2, ev2, h⟩ := bd h
    by_cases hc : (1480 : Int32) < v2
    · have h := (if_pos hc).symm.trans h
      obtain rfl := Option.some.inj h
      exact hB
    · have h := (if_neg hc).symm.trans h
      obtain ⟨v3, ev3, h⟩ := bd h
      by_cases hc : v3 < 0
      · have h := (if_pos hc).symm.trans h
        obtain rfl := Option.some.inj h
        exact hB
      · have h := (if_neg hc).symm.trans h
        obtain ⟨v4, ev4, h⟩ := bd h
        obtain ⟨v5, ev5, h⟩ := bd h
        obtain ⟨v6, ev6, h⟩ := bd h
        obtain ⟨v7, ev7, h⟩ := bd h
        by_cases hc : (v4 + v5) ≤ v7
        · have h := (if_pos hc).symm.trans h
          obtain ⟨v8, ev8, h⟩ := bd h
          obtain ⟨v9, ev9, h⟩ := bd h
          obtain ⟨v11, M10, eM10, h⟩ := b2d h
          have hB := eX11_two fu  v8 v9 M hB eM10
          by_cases hc : v11 = (2048 : Int32)
          · have h := (if_pos hc).symm.trans h
            obtain ⟨v12, ev12, h⟩ := bd h
            obtain ⟨v13, ev13, h⟩ := bd h
            obtain ⟨v14, ev14, h⟩ := bd h
            obtain ⟨v16, M15, eM15, h⟩ := b2d h
            have hB := eX11_added fu  v12 v13 v14 (0 : Int32) M10 hB eM15
            by_cases hc : v16 = (65535 : Int32)
            · have h := (if_pos hc).symm.trans h
              obtain ⟨v17, ev17, h⟩ := bd h
              obtain ⟨v18, ev18, h⟩ := bd h
              obtain ⟨v19, ev19, h⟩ := bd h
              obtain ⟨v20, ev20, h⟩ := bd h
              obtain ⟨v21, ev21, h⟩ := bd h
              obtain ⟨M22, eM22, h⟩ := bd h
              have hB := e_cp hB eM22
              obtain ⟨v23, ev23, h⟩ := bd h
              obtain ⟨v24, ev24, h⟩ := bd h
              obtain ⟨M25, eM25, h⟩ := bd h
              have hB := eX11_putFour fu  v24 (34 : Int32) (0 : Int32) M22 hB eM25
              obtain ⟨v26, ev26, h⟩ := bd h
              obtain ⟨v27, ev27, h⟩ := bd h
              obtain ⟨v28, ev28, h⟩ := bd h
              obtain ⟨v29, ev29, h⟩ := bd h
              obtain ⟨v30, ev30, h⟩ := bd h
              obtain ⟨v32, M31, eM31, h⟩ := b2d h
              have hB := eX11_added fu  v29 (34 : Int32) v30 (0 : Int32) M25 hB eM31
              obtain ⟨M33, eM33, h⟩ := bd h
              have hB := eX11_putTwo fu  v27 (36 : Int32) (v32 ^^^ (-1 : Int32)) M31 hB eM33
              obtain ⟨v34, ev34, h⟩ := bd h
              obtain ⟨v35, ev35, h⟩ := bd h
              obtain ⟨v36, ev36, h⟩ := bd h
              obtain ⟨q37, eq37, h⟩ := bd h
              obtain ⟨M38, eM38, h⟩ := bd h
              have hB := eX4_send fu q37 v35 (1 : Int32) v36 M33 hB eM38
              obtain rfl := Option.some.inj h
              exact hB
            · have h := (if_neg hc).symm.trans h
              obtain rfl := Option.some.inj h
              exact hB
          · have h := (if_neg hc).symm.trans h
            obtain rfl := Option.some.inj h
            exact hB
        · have h := (if_neg hc).symm.trans h
          obtain rfl := Option.some.inj h
          exact hB
theorem eX11_pseudoSum (fu : Nat) {out : Int32 × Mm}   (a0 : Int32) (a1 : Int32) (a2 : Int32)  (M : Mm) (hB : Lst0 M) (h : fX11_pseudoSum fu  a0 a1 a2 M = some out) : Lst0 out.2 := by
  unfold fX11_pseudoSum at h
  obtain rfl := Option.some.inj h
  exact hB
theorem eX3_readSegment (fu : Nat) {out : Int32 × Mm}   (a0 : Nat)  (M : Mm) (hB : Lst0 M) (h : fX3_readSegment fu  a0 M = some out) : Lst0 out.2 := by
  unfold fX3_readSegment at h
  obtain ⟨v1, ev1, h⟩ := bd h
  obtain ⟨v2, ev2, h⟩ := bd h
  obtain ⟨v4, M3, eM3, h⟩ := b2d h
  have hB := eX11_one fu  v1 (v2 + (12 : Int32)) M hB eM3
  obtain ⟨v5, ev5, h⟩ := bd h
  obtain ⟨v6, ev6, h⟩ := bd h
  by_cases hc : v6 < (20 : Int32)
  · have h := (if_pos hc).symm.trans h
    obtain ⟨hz, rfl⟩ := rN_some h
    exact hB
  · have h := (if_neg hc).symm.trans h
    by_cases hc : v5 < (20 : Int32)
    · have h := (if_pos hc).symm.trans h
      obtain ⟨hz, rfl⟩ := rN_some h
      exact hB
    · have h := (if_neg hc).symm.trans h
      obtain ⟨v7, ev7, h⟩ := bd h
      by_cases hc : v5 ≤ v7
      · have h := (if_pos hc).symm.trans h
        obtain ⟨v8, ev8, h⟩ := bd h
        obtain ⟨v9, ev9, h⟩ := bd h
        obtain ⟨v10, ev10, h⟩ := bd h
        obtain ⟨v11, ev11, h⟩ := bd h
        obtain ⟨v12, ev12, h⟩ := bd h
        obtain ⟨v13, ev13, h⟩ := bd h
        obtain ⟨v14, ev14, h⟩ := bd h
        obtain ⟨v16, M15, eM15, h⟩ := b2d h
        have hB := eX11_pseudoSum fu  v11 v13 v14 M3 hB eM15
        obtain ⟨v18, M17, eM17, h⟩ := b2d h
        have hB := eX11_added fu  v8 v9 v10 v16 M15 hB eM17
        by_cases hc : v18 = (65535 : Int32)
        · have h := (if_pos hc).symm.trans h
          obtain ⟨v19, ev19, h⟩ := bd h
          obtain ⟨v20, ev20, h⟩ := bd h
          obtain ⟨v22, M21, eM21, h⟩ := b2d h
          have hB := eX11_two fu  v19 v20 M17 hB eM21
          obtain ⟨M23, eM23, h⟩ := bd h
          have hB := e_pF hB eM23
          obtain ⟨v24, ev24, h⟩ := bd h
          obtain ⟨v25, ev25, h⟩ := bd h
          obtain ⟨v27, M26, eM26, h⟩ := b2d h
          have hB := eX11_two fu  v24 (v25 + (2 : Int32)) M23 hB eM26
          obtain ⟨M28, eM28, h⟩ := bd h
          have hB := e_pF hB eM28
          obtain ⟨v29, ev29, h⟩ := bd h
          obtain ⟨v30, ev30, h⟩ := bd h
          obtain ⟨v32, M31, eM31, h⟩ := b2d h
          have hB := eX11_four fu  v29 (v30 + (4 : Int32)) M28 hB eM31
          obtain ⟨M33, eM33, h⟩ := bd h
          have hB := e_pF hB eM33
          obtain ⟨v34, ev34, h⟩ := bd h
          obtain ⟨v35, ev35, h⟩ := bd h
          obtain ⟨v37, M36, eM36, h⟩ := b2d h
          have hB := eX11_four fu  v34 (v35 + (8 : Int32)) M33 hB eM36
          obtain ⟨M38, eM38, h⟩ := bd h
          have hB := e_pF hB eM38
          obtain ⟨v39, ev39, h⟩ := bd h
          obtain ⟨v40, ev40, h⟩ := bd h
          obtain ⟨v42, M41, eM41, h⟩ := b2d h
          have hB := eX11_one fu  v39 (v40 + (13 : Int32)) M38 hB eM41
          obtain ⟨M43, eM43, h⟩ := bd h
          have hB := e_pF hB eM43
          obtain ⟨v44, ev44, h⟩ := bd h
          obtain ⟨v45, ev45, h⟩ := bd h
          obtain ⟨v47, M46, eM46, h⟩ := b2d h
          have hB := eX11_two fu  v44 (v45 + (14 : Int32)) M43 hB eM46
          obtain ⟨M48, eM48, h⟩ := bd h
          have hB := e_pF hB eM48
          obtain ⟨v49, ev49, h⟩ := bd h
          obtain ⟨M50, eM50, h⟩ := bd h
          have hB := e_pF hB eM50
          obtain ⟨v51, ev51, h⟩ := bd h
          obtain ⟨M52, eM52, h⟩ := bd h
          have hB := e_pF hB eM52
          obtain ⟨hz, rfl⟩ := rN_some h
          exact hB
        · have h := (if_neg hc).symm.trans h
          obtain ⟨hz, rfl⟩ := rN_some h
          exact hB
      · have h := (if_neg hc).symm.trans h
        obtain ⟨hz, rfl⟩ := rN_some h
        exact hB
theorem eX4_init (fu : Nat) {out : Mm}   (a0 : Nat) (a1 : Option Nat)  (M : Mm) (hB : Lst0 M) (h : fX4_init fu  a0 a1 M = some out) : Lst0 out := by
  unfold fX4_init at h
  obtain ⟨M1, eM1, h⟩ := bd h
  have hB := e_pG hB eM1
  obtain ⟨v2, M3, eM3, h⟩ := b2d h
  have hB := e_mkA (by decide) eM3
  obtain ⟨M4, eM4, h⟩ := bd h
  have hB := e_pG hB eM4
  obtain ⟨v5, M6, eM6, h⟩ := b2d h
  have hB := e_mkA (by decide) eM6
  obtain ⟨M7, eM7, h⟩ := bd h
  have hB := e_pG hB eM7
  obtain ⟨v8, M9, eM9, h⟩ := b2d h
  have hB := e_mkA (by decide) eM9
  obtain ⟨M10, eM10, h⟩ := bd h
  have hB := e_pG hB eM10
  obtain ⟨v11, M12, eM12, h⟩ := b2d h
  have hB := e_mkA (by decide) eM12
  obtain ⟨M13, eM13, h⟩ := bd h
  have hB := e_pG hB eM13
  obtain ⟨v14, M15, eM15, h⟩ := b2d h
  have hB := e_mkA (by decide) eM15
  obtain ⟨M16, eM16, h⟩ := bd h
  have hB := e_pG hB eM16
  obtain ⟨v17, M18, eM18, h⟩ := b2d h
  have hB := e_mkA (by decide) eM18
  obtain ⟨M19, eM19, h⟩ := bd h
  have hB := e_pG hB eM19
  obtain rfl := Option.some.inj h
  exact hB
theorem eX4_restart (fu : Nat) {out : Mm}   (a0 : Nat) (a1 : Int32) (a2 : Int32) (a3 : Int32) (a4 : Int32) (a5 : Int32)  (M : Mm) (hB : Lst0 M) (h : fX4_restart fu  a0 a1 a2 a3 a4 a5 M = some out) : Lst0 out := by
  unfold fX4_restart at h
  obtain ⟨M1, eM1, h⟩ := bd h
  have hB := e_pF hB eM1
  obtain ⟨M2, eM2, h⟩ := bd h
  have hB := e_pF hB eM2
  obtain ⟨M3, eM3, h⟩ := bd h
  have hB := e_pF hB eM3
  obtain ⟨M4, eM4, h⟩ := bd h
  have hB := e_pF hB eM4
  obtain ⟨M5, eM5, h⟩ := bd h
  have hB := e_pF hB eM5
  obtain ⟨M6, eM6, h⟩ := bd h
  have hB := e_pF hB eM6
  obtain ⟨M7, eM7, h⟩ := bd h
  have hB := e_pF hB eM7
  obtain ⟨M8, eM8, h⟩ := bd h
  have hB := e_pF hB eM8
  obtain rfl := Option.some.inj h
  exact hB
theorem eX4_newEntry_L48 (fu : Nat) {out : Int32 × Mm} (k25 : Nat → Int32 → Int32 → Mm → Option (Int32 × Mm)) (hk25 : ∀ (b0 : Nat) (b1 : Int32) (b2 : Int32)  (M : Mm), Lst0 M → k25 b0 b1 b2 M = some out → Lst0 out.2) (a0 : Nat) (a1 : Int32) (a2 : Int32)  (M : Mm) (hB : Lst0 M) (h : fX4_newEntry_L48 fu k25 a0 a1 a2 M = some out) : Lst0 out.2 := by
  unfold fX4_newEntry_L48 at h
  exact hk25 a0 a1 (a2 + (1 : Int32)) M hB h
theorem eX4_newEntry_L25 (fu : Nat) {out : Int32 × Mm}   : ∀ (n : Nat) (a0 : Nat) (a1 : Int32) (a2 : Int32)  (M : Mm), Lst0 M → fX4_newEntry_L25 fu  n a0 a1 a2 M = some out → Lst0 out.2 := by
  intro n
  induction n with
  | zero =>
    intro a0 a1 a2 M hB h
    have h : (none : Option (Int32 × Mm)) = some out := h
    cases h
  | succ n ih =>
    intro a0 a1 a2 M hB h
    rw [fX4_newEntry_L25] at h
    by_cases hc : (16 : Int32) ≤ a2
    · have h := (if_pos hc).symm.trans h
      obtain rfl := Option.some.inj h
      exact hB
    · have h := (if_neg hc).symm.trans h
      obtain ⟨v1, ev1, h⟩ := bd h
      obtain ⟨v2, ev2, h⟩ := bd h
      obtain ⟨v3, ev3, h⟩ := bd h
      obtain ⟨v4, ev4, h⟩ := bd h
      by_cases hc : v4 ≤ v2
      · have h := (if_pos hc).symm.trans h
        exact eX4_newEntry_L48 fu (fun b0 b1 b2 M => fX4_newEntry_L25 fu  n b0 b1 b2 M) ih  a0 a1 a2 M hB h
      · have h := (if_neg hc).symm.trans h
        exact eX4_newEntry_L48 fu (fun b0 b1 b2 M => fX4_newEntry_L25 fu  n b0 b1 b2 M) ih  a0 a2 a2 M hB h
theorem eX4_newEntry (fu : Nat) {out : Int32 × Mm}   (a0 : Nat)  (M : Mm) (hB : Lst0 M) (h : fX4_newEntry fu  a0 M = some out) : Lst0 out.2 := by
  unfold fX4_newEntry at h
  obtain ⟨v1, ev1, h⟩ := bd h
  by_cases hc : (16 : Int32) ≤ v1
  · have h := (if_pos hc).symm.trans h
    exact eX4_newEntry_L25 fu   fu a0 (0 : Int32) (1 : Int32) M hB h
  · have h := (if_neg hc).symm.trans h
    obtain ⟨v2, ev2, h⟩ := bd h
    obtain ⟨M3, eM3, h⟩ := bd h
    have hB := e_pF hB eM3
    obtain rfl := Option.some.inj h
    exact hB
theorem eX4_dropWaiter_L60 (fu : Nat) {out : Mm}   (a0 : Nat) (a2 : Option Nat)  (M : Mm) (hB : Lst0 M) (h : fX4_dropWaiter_L60 fu  a0 a2 M = some out) : Lst0 out := by
  unfold fX4_dropWaiter_L60 at h
  obtain ⟨v1, ev1, h⟩ := bd h
  obtain ⟨M2, eM2, h⟩ := bd h
  have hB := e_pF hB eM2
  obtain ⟨v3, ev3, h⟩ := bd h
  obtain ⟨v4, ev4, h⟩ := bd h
  obtain ⟨M5, eM5, h⟩ := bd h
  have hB := e_pB hB eM5
  obtain rfl := Option.some.inj h
  exact hB
theorem eX4_dropWaiter_L22 (fu : Nat) {out : Mm}   : ∀ (n : Nat) (a0 : Nat) (a2 : Option Nat) (a3 : Int32)  (M : Mm), Lst0 M → fX4_dropWaiter_L22 fu  n a0 a2 a3 M = some out → Lst0 out := by
  intro n
  induction n with
  | zero =>
    intro a0 a2 a3 M hB h
    have h : (none : Option (Mm)) = some out := h
    cases h
  | succ n ih =>
    intro a0 a2 a3 M hB h
    rw [fX4_dropWaiter_L22] at h
    obtain ⟨v1, ev1, h⟩ := bd h
    by_cases hc : v1 ≤ (a3 + (1 : Int32))
    · have h := (if_pos hc).symm.trans h
      exact eX4_dropWaiter_L60 fu    a0 a2 M hB h
    · have h := (if_neg hc).symm.trans h
      by_cases hc : (8 : Int32) ≤ (a3 + (1 : Int32))
      · have h := (if_pos hc).symm.trans h
        exact eX4_dropWaiter_L60 fu    a0 a2 M hB h
      · have h := (if_neg hc).symm.trans h
        obtain ⟨v2, ev2, h⟩ := bd h
        obtain ⟨v3, ev3, h⟩ := bd h
        obtain ⟨v4, ev4, h⟩ := bd h
        obtain ⟨M5, eM5, h⟩ := bd h
        have hB := e_pB hB eM5
        exact ih a0 a2 (a3 + (1 : Int32)) M5 hB h
theorem eX4_dropWaiter (fu : Nat) {out : Mm}   (a0 : Nat) (a1 : Int32)  (M : Mm) (hB : Lst0 M) (h : fX4_dropWaiter fu  a0 a1 M = some out) : Lst0 out := by
  unfold fX4_dropWaiter at h
  by_cases hc : a1 < 0
  · have h := (if_pos hc).symm.trans h
    obtain rfl := Option.some.inj h
    exact hB
  · have h := (if_neg hc).symm.trans h
    obtain ⟨v1, ev1, h⟩ := bd h
    by_cases hc : a1 < v1
    · have h := (if_pos hc).symm.trans h
      obtain ⟨v2, ev2, h⟩ := bd h
      obtain ⟨v3, ev3, h⟩ := bd h
      exact eX4_dropWaiter_L22 fu   fu a0 v3 a1 M hB h
    · have h := (if_neg hc).symm.trans h
      obtain rfl := Option.some.inj h
      exact hB
theorem eX4_release (fu : Nat) {out : Mm}   (a0 : Nat) (a1 : Int32) (a2 : Int32)  (M : Mm) (hB : Lst0 M) (h : fX4_release fu  a0 a1 a2 M = some out) : Lst0 out := by
  unfold fX4_release at h
  obtain ⟨q1, eq1, h⟩ := bd h
  obtain ⟨v3, M2, eM2, h⟩ := b2d h
  have hB := eX4_waiterFor fu q1 a1 M hB eM2
  by_cases hc : 0 ≤ v3
  · have h := (if_pos hc).symm.trans h
    obtain ⟨v4, ev4, h⟩ := bd h
    obtain ⟨v5, ev5, h⟩ := bd h
    obtain ⟨q6, eq6, h⟩ := bd h
    obtain ⟨M7, eM7, h⟩ := bd h
    have hB := eX4_dropWaiter fu q6 v3 M2 hB eM7
    by_cases hc : v5 = none
    · have h := (if_pos hc).symm.trans h
      obtain rfl := Option.some.inj h
      exact hB
    · have h := (if_neg hc).symm.trans h
      obtain ⟨v8, ev8, h⟩ := bd h
      obtain ⟨v9, ev9, h⟩ := bd h
      obtain ⟨v10, ev10, h⟩ := bd h
      obtain ⟨v11, ev11, h⟩ := bd h
      obtain ⟨v12, ev12, h⟩ := bd h
      obtain ⟨q13, eq13, h⟩ := bd h
      obtain ⟨M14, eM14, h⟩ := bd h
      have hB := eX4_fillLink fu q13 v8 v10 v12 (2048 : Int32) M7 hB eM14
      obtain ⟨v15, ev15, h⟩ := bd h
      obtain ⟨v16, ev16, h⟩ := bd h
      obtain ⟨v17, ev17, h⟩ := bd h
      obtain ⟨q18, eq18, h⟩ := bd h
      obtain ⟨M19, eM19, h⟩ := bd h
      have hB := eX10_put fu q18 v16 v17 M14 hB eM19
      obtain rfl := Option.some.inj h
      exact hB
  · have h := (if_neg hc).symm.trans h
    obtain rfl := Option.some.inj h
    exact hB
theorem eX4_takeArp_L171 (fu : Nat) {out : Mm}   (a0 : Nat) (a1 : Option Nat) (a3 : Int32) (a4 : Int32) (a5 : Int32)  (M : Mm) (hB : Lst0 M) (h : fX4_takeArp_L171 fu  a0 a1 a3 a4 a5 M = some out) : Lst0 out := by
  unfold fX4_takeArp_L171 at h
  by_cases hc : a5 = 0
  · have h := (if_pos hc).symm.trans h
    obtain rfl := Option.some.inj h
    exact hB
  · have h := (if_neg hc).symm.trans h
    by_cases hc : a3 = (1 : Int32)
    · have h := (if_pos hc).symm.trans h
      obtain ⟨v2, M1, eM1, h⟩ := b2d h
      have hB := eX11_two fu  a1 (22 : Int32) M hB eM1
      obtain ⟨v4, M3, eM3, h⟩ := b2d h
      have hB := eX11_four fu  a1 (24 : Int32) M1 hB eM3
      obtain ⟨q5, eq5, h⟩ := bd h
      obtain ⟨M6, eM6, h⟩ := bd h
      have hB := eX4_fillArp fu q5 (2 : Int32) v2 v4 a4 M3 hB eM6
      obtain ⟨v7, ev7, h⟩ := bd h
      obtain ⟨v9, M8, eM8, h⟩ := b2d h
      have hB := eX11_two fu  a1 (22 : Int32) M6 hB eM8
      obtain ⟨v11, M10, eM10, h⟩ := b2d h
      have hB := eX11_four fu  a1 (24 : Int32) M8 hB eM10
      obtain ⟨q12, eq12, h⟩ := bd h
      obtain ⟨M13, eM13, h⟩ := bd h
      have hB := eX4_fillLink fu q12 v7 v9 v11 (2054 : Int32) M10 hB eM13
      obtain ⟨v14, ev14, h⟩ := bd h
      obtain ⟨v15, ev15, h⟩ := bd h
      obtain ⟨q16, eq16, h⟩ := bd h
      obtain ⟨M17, eM17, h⟩ := bd h
      have hB := eX10_put fu q16 v15 (42 : Int32) M13 hB eM17
      obtain rfl := Option.some.inj h
      exact hB
    · have h := (if_neg hc).symm.trans h
      obtain rfl := Option.some.inj h
      exact hB
theorem eX4_takeArp_L109 (fu : Nat) {out : Mm}   (a0 : Nat) (a1 : Option Nat) (a3 : Int32) (a4 : Int32) (a5 : Int32) (a6 : Int32)  (M : Mm) (hB : Lst0 M) (h : fX4_takeArp_L109 fu  a0 a1 a3 a4 a5 a6 M = some out) : Lst0 out := by
  unfold fX4_takeArp_L109 at h
  by_cases hc : a6 < 0
  · have h := (if_pos hc).symm.trans h
    exact eX4_takeArp_L171 fu    a0 a1 a3 a4 a5 M hB h
  · have h := (if_neg hc).symm.trans h
    obtain ⟨v1, ev1, h⟩ := bd h
    obtain ⟨M2, eM2, h⟩ := bd h
    have hB := e_pA hB eM2
    obtain ⟨v3, ev3, h⟩ := bd h
    obtain ⟨v5, M4, eM4, h⟩ := b2d h
    have hB := eX11_two fu  a1 (22 : Int32) M2 hB eM4
    obtain ⟨M6, eM6, h⟩ := bd h
    have hB := e_pA hB eM6
    obtain ⟨v7, ev7, h⟩ := bd h
    obtain ⟨v9, M8, eM8, h⟩ := b2d h
    have hB := eX11_four fu  a1 (24 : Int32) M6 hB eM8
    obtain ⟨M10, eM10, h⟩ := bd h
    have hB := e_pA hB eM10
    obtain ⟨v11, ev11, h⟩ := bd h
    obtain ⟨v12, ev12, h⟩ := bd h
    obtain ⟨v13, ev13, h⟩ := bd h
    obtain ⟨M14, eM14, h⟩ := bd h
    have hB := e_pA hB eM14
    obtain ⟨q15, eq15, h⟩ := bd h
    obtain ⟨M16, eM16, h⟩ := bd h
    have hB := eX4_release fu q15 a4 a6 M14 hB eM16
    exact eX4_takeArp_L171 fu    a0 a1 a3 a4 a5 M16 hB h
theorem eX4_takeArp_L74 (fu : Nat) {out : Mm}   (a0 : Nat) (a1 : Option Nat) (a3 : Int32) (a4 : Int32) (s0 : Int32) (M : Mm) (hB : Lst0 M) (h : fX4_takeArp_L74 fu  a0 a1 a3 a4 s0 M = some out) : Lst0 out := by
  unfold fX4_takeArp_L74 at h
  obtain ⟨q1, eq1, h⟩ := bd h
  obtain ⟨v3, M2, eM2, h⟩ := b2d h
  have hB := eX4_entryOf fu q1 a4 M hB eM2
  by_cases hc : 0 ≤ v3
  · have h := (if_pos hc).symm.trans h
    exact eX4_takeArp_L109 fu    a0 a1 a3 a4 s0 v3 M2 hB h
  · have h := (if_neg hc).symm.trans h
    by_cases hc : s0 = 0
    · have h := (if_pos hc).symm.trans h
      exact eX4_takeArp_L109 fu    a0 a1 a3 a4 s0 v3 M2 hB h
    · have h := (if_neg hc).symm.trans h
      obtain ⟨v4, ev4, h⟩ := bd h
      by_cases hc : a4 = v4
      · have h := (if_pos hc).symm.trans h
        exact eX4_takeArp_L109 fu    a0 a1 a3 a4 s0 v3 M2 hB h
      · have h := (if_neg hc).symm.trans h
        obtain ⟨q5, eq5, h⟩ := bd h
        obtain ⟨v7, M6, eM6, h⟩ := b2d h
        have hB := eX4_newEntry fu q5  M2 hB eM6
        exact eX4_takeArp_L109 fu    a0 a1 a3 a4 s0 v7 M6 hB h
theorem eX4_takeArp_L48 (fu : Nat) {out : Mm}   (a0 : Nat) (a1 : Option Nat) (a3 : Int32)  (M : Mm) (hB : Lst0 M) (h : fX4_takeArp_L48 fu  a0 a1 a3 M = some out) : Lst0 out := by
  unfold fX4_takeArp_L48 at h
  obtain ⟨v2, M1, eM1, h⟩ := b2d h
  have hB := eX11_four fu  a1 (28 : Int32) M hB eM1
  obtain ⟨v4, M3, eM3, h⟩ := b2d h
  have hB := eX11_four fu  a1 (38 : Int32) M1 hB eM3
  obtain ⟨v5, ev5, h⟩ := bd h
  by_cases hc : v4 = v5
  · have h := (if_pos hc).symm.trans h
    exact eX4_takeArp_L74 fu    a0 a1 a3 v2 (1 : Int32) M3 hB h
  · have h := (if_neg hc).symm.trans h
    exact eX4_takeArp_L74 fu    a0 a1 a3 v2 (0 : Int32) M3 hB h
theorem eX4_takeArp (fu : Nat) {out : Mm}   (a0 : Nat) (a1 : Option Nat) (a2 : Int32)  (M : Mm) (hB : Lst0 M) (h : fX4_takeArp fu  a0 a1 a2 M = some out) : Lst0 out := by
  unfold fX4_takeArp at h
  by_cases hc : a2 < (42 : Int32)
  · have h := (if_pos hc).symm.trans h
    obtain rfl := Option.some.inj h
    exact hB
  · have h := (if_neg hc).symm.trans h
    obtain ⟨v2, M1, eM1, h⟩ := b2d h
    have hB := eX11_four fu  a1 (14 : Int32) M hB eM1
    by_cases hc : v2 = (67584 : Int32)
    · have h := (if_pos hc).symm.trans h
      obtain ⟨v4, M3, eM3, h⟩ := b2d h
      have hB := eX11_two fu  a1 (18 : Int32) M1 hB eM3
      by_cases hc : v4 = (1540 : Int32)
      · have h := (if_pos hc).symm.trans h
        obtain ⟨v6, M5, eM5, h⟩ := b2d h
        have hB := eX11_two fu  a1 (20 : Int32) M3 hB eM5
        by_cases hc : v6 = (1 : Int32)
        · have h := (if_pos hc).symm.trans h
          exact eX4_takeArp_L48 fu    a0 a1 v6 M5 hB h
        · have h := (if_neg hc).symm.trans h
          by_cases hc : v6 = (2 : Int32)
          · have h := (if_pos hc).symm.trans h
            exact eX4_takeArp_L48 fu    a0 a1 v6 M5 hB h
          · have h := (if_neg hc).symm.trans h
            obtain rfl := Option.some.inj h
            exact hB
      · have h := (if_neg hc).symm.trans h
        obtain rfl := Option.some.inj h
        exact hB
    · have h := (if_neg hc).symm.trans h
      obtain rfl := Option.some.inj h
      exact hB
theorem eX4_dueOf (fu : Nat) {out : Int32 × Mm}   (a0 : Option Nat)  (M : Mm) (hB : Lst0 M) (h : fX4_dueOf fu  a0 M = some out) : Lst0 out.2 := by
  unfold fX4_dueOf at h
  by_cases hc : a0 = none
  · have h := (if_pos hc).symm.trans h
    obtain rfl := Option.some.inj h
    exact hB
  · have h := (if_neg hc).symm.trans h
    obtain ⟨v1, ev1, h⟩ := bd h
    obtain ⟨v2, ev2, h⟩ := bd h
    obtain rfl := Option.some.inj h
    exact hB
theorem eX4_earliest_L5 (fu : Nat) {out : Int32 × Mm}   : ∀ (n : Nat) (a0 : Nat) (a1 : Int32) (a2 : Int32)  (M : Mm), Lst0 M → fX4_earliest_L5 fu  n a0 a1 a2 M = some out → Lst0 out.2 := by
  intro n
  induction n with
  | zero =>
    intro a0 a1 a2 M hB h
    have h : (none : Option (Int32 × Mm)) = some out := h
    cases h
  | succ n ih =>
    intro a0 a1 a2 M hB h
    rw [fX4_earliest_L5] at h
    obtain ⟨v1, ev1, h⟩ := bd h
    by_cases hc : v1 ≤ a2
    · have h := (if_pos hc).symm.trans h
      obtain rfl := Option.some.inj h
      exact hB
    · have h := (if_neg hc).symm.trans h
      by_cases hc : (8 : Int32) ≤ a2
      · have h := (if_pos hc).symm.trans h
        obtain rfl := Option.some.inj h
        exact hB
      · have h := (if_neg hc).symm.trans h
        obtain ⟨v2, ev2, h⟩ := bd h
        obtain ⟨v3, ev3, h⟩ := bd h
        obtain ⟨v5, M4, eM4, h⟩ := b2d h
        have hB := eX4_dueOf fu  v3 M hB eM4
        exact ih a0 (jmin a1 v5) (a2 + (1 : Int32)) M4 hB h
theorem eX4_earliest (fu : Nat) {out : Int32 × Mm}   (a0 : Nat)  (M : Mm) (hB : Lst0 M) (h : fX4_earliest fu  a0 M = some out) : Lst0 out.2 := by
  unfold fX4_earliest at h
  exact eX4_earliest_L5 fu   fu a0 (2147483647 : Int32) (0 : Int32) M hB h
theorem eX4_repeat_L87 (fu : Nat) {out : Int32 × Mm} (k2 : Nat → Int32 → Int32 → Mm → Option (Int32 × Mm)) (hk2 : ∀ (b0 : Nat) (b1 : Int32) (b2 : Int32)  (M : Mm), Lst0 M → k2 b0 b1 b2 M = some out → Lst0 out.2) (a0 : Nat) (a1 : Int32) (a2 : Int32)  (M : Mm) (hB : Lst0 M) (h : fX4_repeat_L87 fu k2 a0 a1 a2 M = some out) : Lst0 out.2 := by
  unfold fX4_repeat_L87 at h
  exact hk2 a0 a1 (a2 + (1 : Int32)) M hB h
theorem eX4_repeat_L2 (fu : Nat) {out : Int32 × Mm}   : ∀ (n : Nat) (a0 : Nat) (a1 : Int32) (a2 : Int32)  (M : Mm), Lst0 M → fX4_repeat_L2 fu  n a0 a1 a2 M = some out → Lst0 out.2 := by
  intro n
  induction n with
  | zero =>
    intro a0 a1 a2 M hB h
    have h : (none : Option (Int32 × Mm)) = some out := h
    cases h
  | succ n ih =>
    intro a0 a1 a2 M hB h
    rw [fX4_repeat_L2] at h
    obtain ⟨v1, ev1, h⟩ := bd h
    by_cases hc : v1 ≤ a2
    · have h := (if_pos hc).symm.trans h
      obtain ⟨hz, rfl⟩ := rN_some h
      exact hB
    · have h := (if_neg hc).symm.trans h
      by_cases hc : (8 : Int32) ≤ a2
      · have h := (if_pos hc).symm.trans h
        obtain ⟨hz, rfl⟩ := rN_some h
        exact hB
      · have h := (if_neg hc).symm.trans h
        obtain ⟨v2, ev2, h⟩ := bd h
        obtain ⟨v3, ev3, h⟩ := bd h
        by_cases hc : v3 = none
        · have h := (if_pos hc).symm.trans h
          exact eX4_repeat_L87 fu (fun b0 b1 b2 M => fX4_repeat_L2 fu  n b0 b1 b2 M) ih  a0 a1 a2 M hB h
        · have h := (if_neg hc).symm.trans h
          obtain ⟨v5, M4, eM4, h⟩ := b2d h
          have hB := eX4_dueOf fu  v3 M hB eM4
          by_cases hc : v5 = a1
          · have h := (if_pos hc).symm.trans h
            obtain ⟨v6, ev6, h⟩ := bd h
            by_cases hc : (3 : Int32) ≤ v6
            · have h := (if_pos hc).symm.trans h
              obtain ⟨q7, eq7, h⟩ := bd h
              obtain ⟨M8, eM8, h⟩ := bd h
              have hB := eX4_dropWaiter fu q7 a2 M4 hB eM8
              obtain ⟨hz, rfl⟩ := rN_some h
              exact hB
            · have h := (if_neg hc).symm.trans h
              obtain ⟨v9, ev9, h⟩ := bd h
              obtain ⟨M10, eM10, h⟩ := bd h
              have hB := e_pF hB eM10
              obtain ⟨v11, ev11, h⟩ := bd h
              obtain ⟨q12, eq12, h⟩ := bd h
              obtain ⟨M13, eM13, h⟩ := bd h
              have hB := eX4_fillAsk fu q12 v11 M10 hB eM13
              obtain ⟨v14, ev14, h⟩ := bd h
              obtain ⟨v15, ev15, h⟩ := bd h
              obtain ⟨q16, eq16, h⟩ := bd h
              obtain ⟨M17, eM17, h⟩ := bd h
              have hB := eX10_put fu q16 v15 (42 : Int32) M13 hB eM17
              obtain ⟨hz, rfl⟩ := rN_some h
              exact hB
          · have h := (if_neg hc).symm.trans h
            exact eX4_repeat_L87 fu (fun b0 b1 b2 M => fX4_repeat_L2 fu  n b0 b1 b2 M) ih  a0 a1 a2 M4 hB h
theorem eX4_repeat (fu : Nat) {out : Int32 × Mm}   (a0 : Nat) (a1 : Int32)  (M : Mm) (hB : Lst0 M) (h : fX4_repeat fu  a0 a1 M = some out) : Lst0 out.2 := by
  unfold fX4_repeat at h
  exact eX4_repeat_L2 fu   fu a0 a1 (0 : Int32) M hB h
theorem eX5_startTiming (fu : Nat) {out : Mm}   (a0 : Nat) (a1 : Int32) (a2 : Int32)  (M : Mm) (hB : Lst0 M) (h : fX5_startTiming fu  a0 a1 a2 M = some out) : Lst0 out := by
  unfold fX5_startTiming at h
  obtain ⟨v1, ev1, h⟩ := bd h
  by_cases hc : v1 = 0
  · have h := (if_pos hc).symm.trans h
    obtain ⟨M2, eM2, h⟩ := bd h
    have hB := e_pZ hB eM2
    obtain ⟨M3, eM3, h⟩ := bd h
    have hB := e_pF hB eM3
    obtain ⟨M4, eM4, h⟩ := bd h
    have hB := e_pF hB eM4
    obtain rfl := Option.some.inj h
    exact hB
  · have h := (if_neg hc).symm.trans h
    obtain rfl := Option.some.inj h
    exact hB
theorem eX5_endTiming_L94 (fu : Nat) {out : Mm}   (a0 : Nat)  (M : Mm) (hB : Lst0 M) (h : fX5_endTiming_L94 fu  a0 M = some out) : Lst0 out := by
  unfold fX5_endTiming_L94 at h
  obtain ⟨v1, ev1, h⟩ := bd h
  obtain ⟨v2, ev2, h⟩ := bd h
  obtain ⟨M3, eM3, h⟩ := bd h
  have hB := e_pF hB eM3
  obtain rfl := Option.some.inj h
  exact hB
theorem eX5_endTiming (fu : Nat) {out : Mm}   (a0 : Nat) (a1 : Int32) (a2 : Int32)  (M : Mm) (hB : Lst0 M) (h : fX5_endTiming fu  a0 a1 a2 M = some out) : Lst0 out := by
  unfold fX5_endTiming at h
  obtain ⟨v1, ev1, h⟩ := bd h
  by_cases hc : v1 = 0
  · have h := (if_pos hc).symm.trans h
    obtain rfl := Option.some.inj h
    exact hB
  · have h := (if_neg hc).symm.trans h
    obtain ⟨v2, ev2, h⟩ := bd h
    by_cases hc : 0 < (a1 - v2)
    · have h := (if_pos hc).symm.trans h
      obtain ⟨M3, eM3, h⟩ := bd h
      have hB := e_pZ hB eM3
      obtain ⟨v4, ev4, h⟩ := bd h
      obtain ⟨v5, ev5, h⟩ := bd h
      by_cases hc : v5 = 0
      · have h := (if_pos hc).symm.trans h
        obtain ⟨M6, eM6, h⟩ := bd h
        have hB := e_pZ hB eM6
        obtain ⟨M7, eM7, h⟩ := bd h
        have hB := e_pF hB eM7
        obtain ⟨M8, eM8, h⟩ := bd h
        have hB := e_pF hB eM8
        exact eX5_endTiming_L94 fu    a0 M8 hB h
      · have h := (if_neg hc).symm.trans h
        obtain ⟨v9, ev9, h⟩ := bd h
        obtain ⟨v10, ev10, h⟩ := bd h
        obtain ⟨M11, eM11, h⟩ := bd h
        have hB := e_pF hB eM11
        obtain ⟨v12, ev12, h⟩ := bd h
        obtain ⟨M13, eM13, h⟩ := bd h
        have hB := e_pF hB eM13
        exact eX5_endTiming_L94 fu    a0 M13 hB h
    · have h := (if_neg hc).symm.trans h
      obtain rfl := Option.some.inj h
      exact hB
theorem eX5_grow (fu : Nat) {out : Mm}   (a0 : Nat) (a1 : Int32)  (M : Mm) (hB : Lst0 M) (h : fX5_grow fu  a0 a1 M = some out) : Lst0 out := by
  unfold fX5_grow at h
  obtain ⟨v1, ev1, h⟩ := bd h
  by_cases hc : v1 = 0
  · have h := (if_pos hc).symm.trans h
    obtain ⟨v2, ev2, h⟩ := bd h
    obtain ⟨v3, ev3, h⟩ := bd h
    by_cases hc : v3 ≤ v2
    · have h := (if_pos hc).symm.trans h
      obtain ⟨v4, ev4, h⟩ := bd h
      obtain ⟨v5, ev5, h⟩ := bd h
      obtain ⟨v6, ev6, h⟩ := bd h
      obtain ⟨v7, ev7, h⟩ := bd h
      by_cases hz : (jmax (1 : Int32) v7) = 0
      · rw [if_pos hz] at h; cases h
      have h := (if_neg hz).symm.trans h
      obtain ⟨M8, eM8, h⟩ := bd h
      have hB := e_pF hB eM8
      obtain rfl := Option.some.inj h
      exact hB
    · have h := (if_neg hc).symm.trans h
      obtain ⟨v9, ev9, h⟩ := bd h
      obtain ⟨v10, ev10, h⟩ := bd h
      obtain ⟨M11, eM11, h⟩ := bd h
      have hB := e_pF hB eM11
      obtain rfl := Option.some.inj h
      exact hB
  · have h := (if_neg hc).symm.trans h
    obtain ⟨M12, eM12, h⟩ := bd h
    have hB := e_pZ hB eM12
    obtain ⟨v13, ev13, h⟩ := bd h
    obtain ⟨M14, eM14, h⟩ := bd h
    have hB := e_pF hB eM14
    obtain rfl := Option.some.inj h
    exact hB
theorem eX5_lowerThreshold (fu : Nat) {out : Mm}   (a0 : Nat) (a1 : Int32)  (M : Mm) (hB : Lst0 M) (h : fX5_lowerThreshold fu  a0 a1 M = some out) : Lst0 out := by
  unfold fX5_lowerThreshold at h
  obtain ⟨v1, ev1, h⟩ := bd h
  obtain ⟨M2, eM2, h⟩ := bd h
  have hB := e_pF hB eM2
  obtain rfl := Option.some.inj h
  exact hB
theorem eX5_countDuplicate_L36 (fu : Nat) {out : Int32 × Mm}   (a0 : Nat) (a1 : Int32)  (M : Mm) (hB : Lst0 M) (h : fX5_countDuplicate_L36 fu  a0 a1 M = some out) : Lst0 out.2 := by
  unfold fX5_countDuplicate_L36 at h
  obtain ⟨v1, ev1, h⟩ := bd h
  by_cases hc : v1 = (3 : Int32)
  · have h := (if_pos hc).symm.trans h
    obtain ⟨q2, eq2, h⟩ := bd h
    obtain ⟨M3, eM3, h⟩ := bd h
    have hB := eX5_lowerThreshold fu q2 a1 M hB eM3
    obtain ⟨v4, ev4, h⟩ := bd h
    obtain ⟨v5, ev5, h⟩ := bd h
    obtain ⟨M6, eM6, h⟩ := bd h
    have hB := e_pF hB eM6
    obtain ⟨M7, eM7, h⟩ := bd h
    have hB := e_pZ hB eM7
    obtain ⟨hz, rfl⟩ := rN_some h
    exact hB
  · have h := (if_neg hc).symm.trans h
    obtain ⟨hz, rfl⟩ := rN_some h
    exact hB
theorem eX5_countDuplicate (fu : Nat) {out : Int32 × Mm}   (a0 : Nat) (a1 : Int32)  (M : Mm) (hB : Lst0 M) (h : fX5_countDuplicate fu  a0 a1 M = some out) : Lst0 out.2 := by
  unfold fX5_countDuplicate at h
  obtain ⟨v1, ev1, h⟩ := bd h
  obtain ⟨M2, eM2, h⟩ := bd h
  have hB := e_pF hB eM2
  obtain ⟨v3, ev3, h⟩ := bd h
  by_cases hc : v3 ≤ (3 : Int32)
  · have h := (if_pos hc).symm.trans h
    exact eX5_countDuplicate_L36 fu    a0 a1 M2 hB h
  · have h := (if_neg hc).symm.trans h
    obtain ⟨v4, ev4, h⟩ := bd h
    obtain ⟨v5, ev5, h⟩ := bd h
    obtain ⟨M6, eM6, h⟩ := bd h
    have hB := e_pF hB eM6
    exact eX5_countDuplicate_L36 fu    a0 a1 M6 hB h
theorem eX5_backOff (fu : Nat) {out : Mm}   (a0 : Nat)  (M : Mm) (hB : Lst0 M) (h : fX5_backOff fu  a0 M = some out) : Lst0 out := by
  unfold fX5_backOff at h
  obtain ⟨v1, ev1, h⟩ := bd h
  obtain ⟨M2, eM2, h⟩ := bd h
  have hB := e_pF hB eM2
  obtain ⟨M3, eM3, h⟩ := bd h
  have hB := e_pZ hB eM3
  obtain ⟨M4, eM4, h⟩ := bd h
  have hB := e_pF hB eM4
  obtain ⟨v5, ev5, h⟩ := bd h
  obtain ⟨M6, eM6, h⟩ := bd h
  have hB := e_pF hB eM6
  obtain rfl := Option.some.inj h
  exact hB
theorem eX7_init (fu : Nat) {out : Mm}   (a0 : Nat) (a1 : Option Nat) (a2 : Option Nat)  (M : Mm) (hB : Lst0 M) (h : fX7_init fu  a0 a1 a2 M = some out) : Lst0 out := by
  unfold fX7_init at h
  obtain ⟨M1, eM1, h⟩ := bd h
  have hB := e_pG hB eM1
  obtain ⟨M2, eM2, h⟩ := bd h
  have hB := e_pG hB eM2
  obtain ⟨v3, M4, eM4, h⟩ := b2d h
  have hB := e_mkA (by decide) eM4
  obtain ⟨M5, eM5, h⟩ := bd h
  have hB := e_pG hB eM5
  obtain ⟨v6, M7, eM7, h⟩ := b2d h
  have hB := e_mkA (by decide) eM7
  obtain ⟨M8, eM8, h⟩ := bd h
  have hB := e_pG hB eM8
  obtain rfl := Option.some.inj h
  exact hB
theorem eX7_emptyLines_L7 (fu : Nat) {out : Int32 × Mm}   : ∀ (n : Nat) (a0 : Option Nat) (a1 : Int32) (a2 : Int32)  (M : Mm), Lst0 M → fX7_emptyLines_L7 fu  n a0 a1 a2 M = some out → Lst0 out.2 := by
  intro n
  induction n with
  | zero =>
    intro a0 a1 a2 M hB h
    have h : (none : Option (Int32 × Mm)) = some out := h
    cases h
  | succ n ih =>
    intro a0 a1 a2 M hB h
    rw [fX7_emptyLines_L7] at h
    by_cases hc : a1 ≤ a2
    · have h := (if_pos hc).symm.trans h
      obtain rfl := Option.some.inj h
      exact hB
    · have h := (if_neg hc).symm.trans h
      obtain ⟨q1, eq1, h⟩ := bd h
      obtain ⟨v3, M2, eM2, h⟩ := b2d h
      have hB := eX0_peek fu q1 a2 M hB eM2
      by_cases hc : v3 = (10 : Int32)
      · have h := (if_pos hc).symm.trans h
        exact ih a0 a1 (a2 + (1 : Int32)) M2 hB h
      · have h := (if_neg hc).symm.trans h
        obtain ⟨q4, eq4, h⟩ := bd h
        obtain ⟨v6, M5, eM5, h⟩ := b2d h
        have hB := eX0_peek fu q4 a2 M2 hB eM5
        by_cases hc : v6 = (13 : Int32)
        · have h := (if_pos hc).symm.trans h
          by_cases hc : a1 ≤ (a2 + (1 : Int32))
          · have h := (if_pos hc).symm.trans h
            obtain rfl := Option.some.inj h
            exact hB
          · have h := (if_neg hc).symm.trans h
            obtain ⟨q7, eq7, h⟩ := bd h
            obtain ⟨v9, M8, eM8, h⟩ := b2d h
            have hB := eX0_peek fu q7 (a2 + (1 : Int32)) M5 hB eM8
            by_cases hc : v9 = (10 : Int32)
            · have h := (if_pos hc).symm.trans h
              exact ih a0 a1 (a2 + (2 : Int32)) M8 hB h
            · have h := (if_neg hc).symm.trans h
              obtain rfl := Option.some.inj h
              exact hB
        · have h := (if_neg hc).symm.trans h
          obtain rfl := Option.some.inj h
          exact hB
theorem eX7_emptyLines (fu : Nat) {out : Int32 × Mm}   (a0 : Option Nat)  (M : Mm) (hB : Lst0 M) (h : fX7_emptyLines fu  a0 M = some out) : Lst0 out.2 := by
  unfold fX7_emptyLines at h
  obtain ⟨q1, eq1, h⟩ := bd h
  obtain ⟨v3, M2, eM2, h⟩ := b2d h
  have hB := eX0_held fu q1  M hB eM2
  exact eX7_emptyLines_L7 fu   fu a0 v3 (0 : Int32) M2 hB h
theorem eX7_lineEnd (fu : Nat) {out : Int32 × Mm}   (a0 : Nat) (a1 : Int32) (a2 : Int32)  (M : Mm) (hB : Lst0 M) (h : fX7_lineEnd fu  a0 a1 a2 M = some out) : Lst0 out.2 := by
  unfold fX7_lineEnd at h
  by_cases hc : a2 ≤ a1
  · have h := (if_pos hc).symm.trans h
    obtain rfl := Option.some.inj h
    exact hB
  · have h := (if_neg hc).symm.trans h
    obtain ⟨v1, ev1, h⟩ := bd h
    obtain ⟨v3, M2, eM2, h⟩ := b2d h
    have hB := eX11_one fu  v1 (a2 - (1 : Int32)) M hB eM2
    by_cases hc : v3 = (13 : Int32)
    · have h := (if_pos hc).symm.trans h
      obtain rfl := Option.some.inj h
      exact hB
    · have h := (if_neg hc).symm.trans h
      obtain rfl := Option.some.inj h
      exact hB
theorem eX7_copyHead_L71 (fu : Nat) {out : Int32 × Mm} (k18 : Nat → Option Nat → Int32 → Int32 → Int32 → Mm → Option (Int32 × Mm)) (hk18 : ∀ (b0 : Nat) (b1 : Option Nat) (b2 : Int32) (b3 : Int32) (b4 : Int32)  (M : Mm), Lst0 M → k18 b0 b1 b2 b3 b4 M = some out → Lst0 out.2) (a0 : Nat) (a1 : Option Nat) (a2 : Int32) (a3 : Int32) (a4 : Int32)  (M : Mm) (hB : Lst0 M) (h : fX7_copyHead_L71 fu k18 a0 a1 a2 a3 a4 M = some out) : Lst0 out.2 := by
  unfold fX7_copyHead_L71 at h
  exact hk18 a0 a1 a2 a3 (a4 + (1 : Int32)) M hB h
theorem eX7_copyHead_L18 (fu : Nat) {out : Int32 × Mm}   : ∀ (n : Nat) (a0 : Nat) (a1 : Option Nat) (a2 : Int32) (a3 : Int32) (a4 : Int32)  (M : Mm), Lst0 M → fX7_copyHead_L18 fu  n a0 a1 a2 a3 a4 M = some out → Lst0 out.2 := by
  intro n
  induction n with
  | zero =>
    intro a0 a1 a2 a3 a4 M hB h
    have h : (none : Option (Int32 × Mm)) = some out := h
    cases h
  | succ n ih =>
    intro a0 a1 a2 a3 a4 M hB h
    rw [fX7_copyHead_L18] at h
    by_cases hc : a2 ≤ a4
    · have h := (if_pos hc).symm.trans h
      obtain rfl := Option.some.inj h
      exact hB
    · have h := (if_neg hc).symm.trans h
      obtain ⟨v1, ev1, h⟩ := bd h
      obtain ⟨q2, eq2, h⟩ := bd h
      obtain ⟨v4, M3, eM3, h⟩ := b2d h
      have hB := eX0_peek fu q2 a4 M hB eM3
      obtain ⟨M5, eM5, h⟩ := bd h
      have hB := e_pA hB eM5
      obtain ⟨v6, ev6, h⟩ := bd h
      obtain ⟨v7, ev7, h⟩ := bd h
      by_cases hc : v7 = (10 : Int32)
      · have h := (if_pos hc).symm.trans h
        obtain ⟨q8, eq8, h⟩ := bd h
        obtain ⟨v10, M9, eM9, h⟩ := b2d h
        have hB := eX7_lineEnd fu q8 a3 a4 M5 hB eM9
        by_cases hc : v10 = a3
        · have h := (if_pos hc).symm.trans h
          obtain rfl := Option.some.inj h
          exact hB
        · have h := (if_neg hc).symm.trans h
          exact eX7_copyHead_L71 fu (fun b0 b1 b2 b3 b4 M => fX7_copyHead_L18 fu  n b0 b1 b2 b3 b4 M) ih  a0 a1 a2 (a4 + (1 : Int32)) a4 M9 hB h
      · have h := (if_neg hc).symm.trans h
        exact eX7_copyHead_L71 fu (fun b0 b1 b2 b3 b4 M => fX7_copyHead_L18 fu  n b0 b1 b2 b3 b4 M) ih  a0 a1 a2 a3 a4 M5 hB h
theorem eX7_copyHead (fu : Nat) {out : Int32 × Mm}   (a0 : Nat) (a1 : Option Nat)  (M : Mm) (hB : Lst0 M) (h : fX7_copyHead fu  a0 a1 M = some out) : Lst0 out.2 := by
  unfold fX7_copyHead at h
  obtain ⟨q1, eq1, h⟩ := bd h
  obtain ⟨v3, M2, eM2, h⟩ := b2d h
  have hB := eX0_held fu q1  M hB eM2
  obtain ⟨v4, ev4, h⟩ := bd h
  obtain ⟨v5, ev5, h⟩ := bd h
  exact eX7_copyHead_L18 fu   fu a0 a1 (jmin v3 v5) (0 : Int32) (0 : Int32) M2 hB h
theorem eX7_forget (fu : Nat) {out : Mm}   (a0 : Nat)  (M : Mm) (hB : Lst0 M) (h : fX7_forget fu  a0 M = some out) : Lst0 out := by
  unfold fX7_forget at h
  obtain ⟨M1, eM1, h⟩ := bd h
  have hB := e_pF hB eM1
  obtain ⟨M2, eM2, h⟩ := bd h
  have hB := e_pZ hB eM2
  obtain ⟨M3, eM3, h⟩ := bd h
  have hB := e_pF hB eM3
  obtain ⟨M4, eM4, h⟩ := bd h
  have hB := e_pF hB eM4
  obtain ⟨M5, eM5, h⟩ := bd h
  have hB := e_pF hB eM5
  obtain ⟨M6, eM6, h⟩ := bd h
  have hB := e_pF hB eM6
  obtain ⟨M7, eM7, h⟩ := bd h
  have hB := e_pF hB eM7
  obtain ⟨M8, eM8, h⟩ := bd h
  have hB := e_pZ hB eM8
  obtain ⟨M9, eM9, h⟩ := bd h
  have hB := e_pZ hB eM9
  obtain ⟨M10, eM10, h⟩ := bd h
  have hB := e_pF hB eM10
  obtain rfl := Option.some.inj h
  exact hB
theorem eX7_isText_L15 (fu : Nat) {out : Int32 × Mm}   : ∀ (n : Nat) (a0 : Nat) (a1 : Int32) (a3 : Option Nat) (a4 : Int32)  (M : Mm), Lst0 M → fX7_isText_L15 fu  n a0 a1 a3 a4 M = some out → Lst0 out.2 := by
  intro n
  induction n with
  | zero =>
    intro a0 a1 a3 a4 M hB h
    have h : (none : Option (Int32 × Mm)) = some out := h
    cases h
  | succ n ih =>
    intro a0 a1 a3 a4 M hB h
    rw [fX7_isText_L15] at h
    obtain ⟨q1, eq1, h⟩ := bd h
    obtain ⟨v3, M2, eM2, h⟩ := b2d h
    have hB := eJ0_length_8abf5 fu q1  M hB eM2
    by_cases hc : v3 ≤ a4
    · have h := (if_pos hc).symm.trans h
      obtain ⟨hz, rfl⟩ := rN_some h
      exact hB
    · have h := (if_neg hc).symm.trans h
      obtain ⟨v4, ev4, h⟩ := bd h
      obtain ⟨v6, M5, eM5, h⟩ := b2d h
      have hB := eX11_one fu  v4 (a1 + a4) M2 hB eM5
      obtain ⟨q7, eq7, h⟩ := bd h
      obtain ⟨v9, M8, eM8, h⟩ := b2d h
      have hB := eJ0_charAt_5068e fu q7 a4 M5 hB eM8
      by_cases hc : v6 = v9
      · have h := (if_pos hc).symm.trans h
        exact ih a0 a1 a3 (a4 + (1 : Int32)) M8 hB h
      · have h := (if_neg hc).symm.trans h
        obtain ⟨hz, rfl⟩ := rN_some h
        exact hB
theorem eX7_isText (fu : Nat) {out : Int32 × Mm}   (a0 : Nat) (a1 : Int32) (a2 : Int32) (a3 : Option Nat)  (M : Mm) (hB : Lst0 M) (h : fX7_isText fu  a0 a1 a2 a3 M = some out) : Lst0 out.2 := by
  unfold fX7_isText at h
  obtain ⟨q1, eq1, h⟩ := bd h
  obtain ⟨v3, M2, eM2, h⟩ := b2d h
  have hB := eJ0_length_8abf5 fu q1  M hB eM2
  by_cases hc : (a2 - a1) = v3
  · have h := (if_pos hc).symm.trans h
    exact eX7_isText_L15 fu   fu a0 a1 a3 (0 : Int32) M2 hB h
  · have h := (if_neg hc).symm.trans h
    obtain ⟨hz, rfl⟩ := rN_some h
    exact hB
theorem eX7_readRequestLine_L160 (fu : Nat) {out : Int32 × Mm}   (a0 : Nat) (a2 : Int32) (a3 : Int32) (s0 : Option Nat) (s1 : Int32) (M : Mm) (hB : Lst0 M) (h : fX7_readRequestLine_L160 fu  a0 a2 a3 s0 s1 M = some out) : Lst0 out.2 := by
  unfold fX7_readRequestLine_L160 at h
  obtain ⟨M1, eM1, h⟩ := bd h
  have hB := e_pZ hB eM1
  obtain ⟨M2, eM2, h⟩ := bd h
  have hB := e_pF hB eM2
  obtain ⟨M3, eM3, h⟩ := bd h
  have hB := e_pF hB eM3
  obtain ⟨q4, eq4, h⟩ := bd h
  obtain ⟨v6, M5, eM5, h⟩ := b2d h
  have hB := eX7_isText fu q4 (0 : Int32) a2 (some 2) M3 hB eM5
  by_cases hc : v6 = 0
  · have h := (if_pos hc).symm.trans h
    obtain ⟨q7, eq7, h⟩ := bd h
    obtain ⟨v9, M8, eM8, h⟩ := b2d h
    have hB := eX7_isText fu q7 (0 : Int32) a2 (some 3) M5 hB eM8
    by_cases hc : v9 = 0
    · have h := (if_pos hc).symm.trans h
      obtain ⟨M10, eM10, h⟩ := bd h
      have hB := e_pF hB eM10
      obtain ⟨hz, rfl⟩ := rN_some h
      exact hB
    · have h := (if_neg hc).symm.trans h
      obtain ⟨M11, eM11, h⟩ := bd h
      have hB := e_pF hB eM11
      obtain ⟨hz, rfl⟩ := rN_some h
      exact hB
  · have h := (if_neg hc).symm.trans h
    obtain ⟨M12, eM12, h⟩ := bd h
    have hB := e_pF hB eM12
    obtain ⟨hz, rfl⟩ := rN_some h
    exact hB
theorem eX7_readRequestLine_L149 (fu : Nat) {out : Int32 × Mm}   (a0 : Nat) (a2 : Int32) (a3 : Int32) (a4 : Int32)  (M : Mm) (hB : Lst0 M) (h : fX7_readRequestLine_L149 fu  a0 a2 a3 a4 M = some out) : Lst0 out.2 := by
  unfold fX7_readRequestLine_L149 at h
  by_cases hc : a4 = 0
  · have h := (if_pos hc).symm.trans h
    exact eX7_readRequestLine_L160 fu    a0 a2 a3 (some a0) (1 : Int32) M hB h
  · have h := (if_neg hc).symm.trans h
    exact eX7_readRequestLine_L160 fu    a0 a2 a3 (some a0) (0 : Int32) M hB h
theorem eX7_readRequestLine_L80 (fu : Nat) {out : Int32 × Mm}   (a0 : Nat) (a1 : Int32) (a2 : Int32) (a3 : Int32)  (M : Mm) (hB : Lst0 M) (h : fX7_readRequestLine_L80 fu  a0 a1 a2 a3 M = some out) : Lst0 out.2 := by
  unfold fX7_readRequestLine_L80 at h
  by_cases hc : a2 < (1 : Int32)
  · have h := (if_pos hc).symm.trans h
    obtain ⟨hz, rfl⟩ := rN_some h
    exact hB
  · have h := (if_neg hc).symm.trans h
    by_cases hc : (16 : Int32) < a2
    · have h := (if_pos hc).symm.trans h
      obtain ⟨hz, rfl⟩ := rN_some h
      exact hB
    · have h := (if_neg hc).symm.trans h
      obtain ⟨v1, ev1, h⟩ := bd h
      obtain ⟨v3, M2, eM2, h⟩ := b2d h
      have hB := eX11_one fu  v1 a2 M hB eM2
      by_cases hc : v3 = (32 : Int32)
      · have h := (if_pos hc).symm.trans h
        obtain ⟨v4, ev4, h⟩ := bd h
        obtain ⟨v6, M5, eM5, h⟩ := b2d h
        have hB := eX11_one fu  v4 (a2 + (1 : Int32)) M2 hB eM5
        by_cases hc : v6 = (47 : Int32)
        · have h := (if_pos hc).symm.trans h
          obtain ⟨q7, eq7, h⟩ := bd h
          obtain ⟨v9, M8, eM8, h⟩ := b2d h
          have hB := eX7_isText fu q7 a3 a1 (some 0) M5 hB eM8
          by_cases hc : v9 = 0
          · have h := (if_pos hc).symm.trans h
            obtain ⟨q10, eq10, h⟩ := bd h
            obtain ⟨v12, M11, eM11, h⟩ := b2d h
            have hB := eX7_isText fu q10 a3 a1 (some 1) M8 hB eM11
            by_cases hc : v12 = 0
            · have h := (if_pos hc).symm.trans h
              obtain ⟨hz, rfl⟩ := rN_some h
              exact hB
            · have h := (if_neg hc).symm.trans h
              exact eX7_readRequestLine_L149 fu    a0 a2 a3 v9 M11 hB h
          · have h := (if_neg hc).symm.trans h
            exact eX7_readRequestLine_L149 fu    a0 a2 a3 v9 M8 hB h
        · have h := (if_neg hc).symm.trans h
          obtain ⟨hz, rfl⟩ := rN_some h
          exact hB
      · have h := (if_neg hc).symm.trans h
        obtain ⟨hz, rfl⟩ := rN_some h
        exact hB
theorem eX7_readRequestLine_L43 (fu : Nat) {out : Int32 × Mm}   : ∀ (n : Nat) (a0 : Nat) (a1 : Int32) (a2 : Int32) (a3 : Int32)  (M : Mm), Lst0 M → fX7_readRequestLine_L43 fu  n a0 a1 a2 a3 M = some out → Lst0 out.2 := by
  intro n
  induction n with
  | zero =>
    intro a0 a1 a2 a3 M hB h
    have h : (none : Option (Int32 × Mm)) = some out := h
    cases h
  | succ n ih =>
    intro a0 a1 a2 a3 M hB h
    rw [fX7_readRequestLine_L43] at h
    by_cases hc : a1 ≤ a3
    · have h := (if_pos hc).symm.trans h
      exact eX7_readRequestLine_L80 fu    a0 a1 a2 a3 M hB h
    · have h := (if_neg hc).symm.trans h
      obtain ⟨v1, ev1, h⟩ := bd h
      obtain ⟨v3, M2, eM2, h⟩ := b2d h
      have hB := eX11_one fu  v1 a3 M hB eM2
      by_cases hc : v3 ≤ (32 : Int32)
      · have h := (if_pos hc).symm.trans h
        exact eX7_readRequestLine_L80 fu    a0 a1 a2 a3 M2 hB h
      · have h := (if_neg hc).symm.trans h
        obtain ⟨v4, ev4, h⟩ := bd h
        obtain ⟨v6, M5, eM5, h⟩ := b2d h
        have hB := eX11_one fu  v4 a3 M2 hB eM5
        by_cases hc : (127 : Int32) ≤ v6
        · have h := (if_pos hc).symm.trans h
          exact eX7_readRequestLine_L80 fu    a0 a1 a2 a3 M5 hB h
        · have h := (if_neg hc).symm.trans h
          exact ih a0 a1 a2 (a3 + (1 : Int32)) M5 hB h
theorem eX7_readRequestLine_L39 (fu : Nat) {out : Int32 × Mm}   (a0 : Nat) (a1 : Int32) (a2 : Int32)  (M : Mm) (hB : Lst0 M) (h : fX7_readRequestLine_L39 fu  a0 a1 a2 M = some out) : Lst0 out.2 := by
  unfold fX7_readRequestLine_L39 at h
  exact eX7_readRequestLine_L43 fu   fu a0 a1 a2 (a2 + (1 : Int32)) M hB h
theorem eX7_readRequestLine_L2 (fu : Nat) {out : Int32 × Mm}   : ∀ (n : Nat) (a0 : Nat) (a1 : Int32) (a2 : Int32)  (M : Mm), Lst0 M → fX7_readRequestLine_L2 fu  n a0 a1 a2 M = some out → Lst0 out.2 := by
  intro n
  induction n with
  | zero =>
    intro a0 a1 a2 M hB h
    have h : (none : Option (Int32 × Mm)) = some out := h
    cases h
  | succ n ih =>
    intro a0 a1 a2 M hB h
    rw [fX7_readRequestLine_L2] at h
    by_cases hc : a1 ≤ a2
    · have h := (if_pos hc).symm.trans h
      exact eX7_readRequestLine_L39 fu    a0 a1 a2 M hB h
    · have h := (if_neg hc).symm.trans h
      obtain ⟨v1, ev1, h⟩ := bd h
      obtain ⟨v3, M2, eM2, h⟩ := b2d h
      have hB := eX11_one fu  v1 a2 M hB eM2
      by_cases hc : v3 < (65 : Int32)
      · have h := (if_pos hc).symm.trans h
        exact eX7_readRequestLine_L39 fu    a0 a1 a2 M2 hB h
      · have h := (if_neg hc).symm.trans h
        obtain ⟨v4, ev4, h⟩ := bd h
        obtain ⟨v6, M5, eM5, h⟩ := b2d h
        have hB := eX11_one fu  v4 a2 M2 hB eM5
        by_cases hc : (90 : Int32) < v6
        · have h := (if_pos hc).symm.trans h
          exact eX7_readRequestLine_L39 fu    a0 a1 a2 M5 hB h
        · have h := (if_neg hc).symm.trans h
          exact ih a0 a1 (a2 + (1 : Int32)) M5 hB h
theorem eX7_readRequestLine (fu : Nat) {out : Int32 × Mm}   (a0 : Nat) (a1 : Int32)  (M : Mm) (hB : Lst0 M) (h : fX7_readRequestLine fu  a0 a1 M = some out) : Lst0 out.2 := by
  unfold fX7_readRequestLine at h
  exact eX7_readRequestLine_L2 fu   fu a0 a1 (0 : Int32) M hB h
theorem eJ1_canEncode_9a6ad (fu : Nat) {out : Int32 × Mm}   (a0 : Int32)  (M : Mm) (hB : Lst0 M) (h : fJ1_canEncode_9a6ad fu  a0 M = some out) : Lst0 out.2 := by
  unfold fJ1_canEncode_9a6ad at h
  by_cases hc : a0 < 0
  · have h := (if_pos hc).symm.trans h
    obtain ⟨hz, rfl⟩ := rN_some h
    exact hB
  · have h := (if_neg hc).symm.trans h
    by_cases hc : (255 : Int32) < a0
    · have h := (if_pos hc).symm.trans h
      obtain ⟨hz, rfl⟩ := rN_some h
      exact hB
    · have h := (if_neg hc).symm.trans h
      obtain ⟨hz, rfl⟩ := rN_some h
      exact hB
theorem eJ1_indexOfChar_4cfef_L7 (fu : Nat) {out : Int32 × Mm}   : ∀ (n : Nat) (a0 : Option Nat) (a3 : Int32) (a4 : Int32) (a5 : Int32)  (M : Mm), Lst0 M → fJ1_indexOfChar_4cfef_L7 fu  n a0 a3 a4 a5 M = some out → Lst0 out.2 := by
  intro n
  induction n with
  | zero =>
    intro a0 a3 a4 a5 M hB h
    have h : (none : Option (Int32 × Mm)) = some out := h
    cases h
  | succ n ih =>
    intro a0 a3 a4 a5 M hB h
    rw [fJ1_indexOfChar_4cfef_L7] at h
    by_cases hc : a3 ≤ a5
    · have h := (if_pos hc).symm.trans h
      obtain rfl := Option.some.inj h
      exact hB
    · have h := (if_neg hc).symm.trans h
      obtain ⟨v1, ev1, h⟩ := bd h
      by_cases hc : v1 = a4
      · have h := (if_pos hc).symm.trans h
        obtain rfl := Option.some.inj h
        exact hB
      · have h := (if_neg hc).symm.trans h
        exact ih a0 a3 a4 (a5 + (1 : Int32)) M hB h
theorem eJ1_indexOfChar_4cfef (fu : Nat) {out : Int32 × Mm}   (a0 : Option Nat) (a1 : Int32) (a2 : Int32) (a3 : Int32)  (M : Mm) (hB : Lst0 M) (h : fJ1_indexOfChar_4cfef fu  a0 a1 a2 a3 M = some out) : Lst0 out.2 := by
  unfold fJ1_indexOfChar_4cfef at h
  exact eJ1_indexOfChar_4cfef_L7 fu   fu a0 a3 (Int8.toInt32 (Int32.toInt8 a1)) a2 M hB h
theorem eJ1_indexOf_4cfef (fu : Nat) {out : Int32 × Mm}   (a0 : Option Nat) (a1 : Int32) (a2 : Int32) (a3 : Int32)  (M : Mm) (hB : Lst0 M) (h : fJ1_indexOf_4cfef fu  a0 a1 a2 a3 M = some out) : Lst0 out.2 := by
  unfold fJ1_indexOf_4cfef at h
  obtain ⟨v2, M1, eM1, h⟩ := b2d h
  have hB := eJ1_canEncode_9a6ad fu  a1 M hB eM1
  by_cases hc : v2 = 0
  · have h := (if_pos hc).symm.trans h
    obtain rfl := Option.some.inj h
    exact hB
  · have h := (if_neg hc).symm.trans h
    obtain ⟨v3, ev3, h⟩ := bd h
    by_cases hc : (jmax a2 (0 : Int32)) < (jmin a3 v3)
    · have h := (if_pos hc).symm.trans h
      obtain ⟨v5, M4, eM4, h⟩ := b2d h
      have hB := eJ1_indexOfChar_4cfef fu  a0 a1 (jmax a2 (0 : Int32)) (jmin a3 v3) M1 hB eM4
      obtain rfl := Option.some.inj h
      exact hB
    · have h := (if_neg hc).symm.trans h
      obtain rfl := Option.some.inj h
      exact hB
theorem eJ3_checkFromToIndex_8c36e_L14 (fu : Nat) {out : Int32 × Mm}   (a0 : Int32) (a1 : Int32) (a2 : Int32) (a3 : Option Nat)  (M : Mm) (hB : Lst0 M) (h : fJ3_checkFromToIndex_8c36e_L14 fu  a0 a1 a2 a3 M = some out) : Lst0 out.2 := by
  unfold fJ3_checkFromToIndex_8c36e_L14 at h
  cases h
theorem eJ3_checkFromToIndex_8c36e (fu : Nat) {out : Int32 × Mm}   (a0 : Int32) (a1 : Int32) (a2 : Int32) (a3 : Option Nat)  (M : Mm) (hB : Lst0 M) (h : fJ3_checkFromToIndex_8c36e fu  a0 a1 a2 a3 M = some out) : Lst0 out.2 := by
  unfold fJ3_checkFromToIndex_8c36e at h
  by_cases hc : a0 < 0
  · have h := (if_pos hc).symm.trans h
    exact eJ3_checkFromToIndex_8c36e_L14 fu    a0 a1 a2 a3 M hB h
  · have h := (if_neg hc).symm.trans h
    by_cases hc : a1 < a0
    · have h := (if_pos hc).symm.trans h
      exact eJ3_checkFromToIndex_8c36e_L14 fu    a0 a1 a2 a3 M hB h
    · have h := (if_neg hc).symm.trans h
      by_cases hc : a1 ≤ a2
      · have h := (if_pos hc).symm.trans h
        obtain rfl := Option.some.inj h
        exact hB
      · have h := (if_neg hc).symm.trans h
        exact eJ3_checkFromToIndex_8c36e_L14 fu    a0 a1 a2 a3 M hB h
theorem eJ0_checkBoundsBeginEnd_23922 (fu : Nat) {out : Mm}   (a0 : Int32) (a1 : Int32) (a2 : Int32)  (M : Mm) (hB : Lst0 M) (h : fJ0_checkBoundsBeginEnd_23922 fu  a0 a1 a2 M = some out) : Lst0 out := by
  unfold fJ0_checkBoundsBeginEnd_23922 at h
  obtain ⟨v2, M1, eM1, h⟩ := b2d h
  have hB := eJ3_checkFromToIndex_8c36e fu  a0 a1 a2 none M hB eM1
  obtain rfl := Option.some.inj h
  exact hB
theorem eJ2_checkBoundsBeginEnd_d044e (fu : Nat) {out : Mm}   (a0 : Int32) (a1 : Int32) (a2 : Option Nat)  (M : Mm) (hB : Lst0 M) (h : fJ2_checkBoundsBeginEnd_d044e fu  a0 a1 a2 M = some out) : Lst0 out := by
  unfold fJ2_checkBoundsBeginEnd_d044e at h
  obtain ⟨v2, M1, eM1, h⟩ := b2d h
  have hB := eJ2_length_9d52b fu  a2 M hB eM1
  obtain ⟨M3, eM3, h⟩ := bd h
  have hB := eJ0_checkBoundsBeginEnd_23922 fu  a0 a1 v2 M1 hB eM3
  obtain rfl := Option.some.inj h
  exact hB
theorem eJ2_indexOfCharUnsafe_4cfef_L3 (fu : Nat) {out : Int32 × Mm}   : ∀ (n : Nat) (a0 : Option Nat) (a1 : Int32) (a3 : Int32) (a4 : Int32)  (M : Mm), Lst0 M → fJ2_indexOfCharUnsafe_4cfef_L3 fu  n a0 a1 a3 a4 M = some out → Lst0 out.2 := by
  intro n
  induction n with
  | zero =>
    intro a0 a1 a3 a4 M hB h
    have h : (none : Option (Int32 × Mm)) = some out := h
    cases h
  | succ n ih =>
    intro a0 a1 a3 a4 M hB h
    rw [fJ2_indexOfCharUnsafe_4cfef_L3] at h
    by_cases hc : a3 ≤ a4
    · have h := (if_pos hc).symm.trans h
      obtain rfl := Option.some.inj h
      exact hB
    · have h := (if_neg hc).symm.trans h
      cases h
theorem eJ2_indexOfCharUnsafe_4cfef (fu : Nat) {out : Int32 × Mm}   (a0 : Option Nat) (a1 : Int32) (a2 : Int32) (a3 : Int32)  (M : Mm) (hB : Lst0 M) (h : fJ2_indexOfCharUnsafe_4cfef fu  a0 a1 a2 a3 M = some out) : Lst0 out.2 := by
  unfold fJ2_indexOfCharUnsafe_4cfef at h
  exact eJ2_indexOfCharUnsafe_4cfef_L3 fu   fu a0 a1 a3 a2 M hB h
theorem eJ2_indexOfChar_4cfef (fu : Nat) {out : Int32 × Mm}   (a0 : Option Nat) (a1 : Int32) (a2 : Int32) (a3 : Int32)  (M : Mm) (hB : Lst0 M) (h : fJ2_indexOfChar_4cfef fu  a0 a1 a2 a3 M = some out) : Lst0 out.2 := by
  unfold fJ2_indexOfChar_4cfef at h
  obtain ⟨M1, eM1, h⟩ := bd h
  have hB := eJ2_checkBoundsBeginEnd_d044e fu  a2 a3 a0 M hB eM1
  obtain ⟨v3, M2, eM2, h⟩ := b2d h
  have hB := eJ2_indexOfCharUnsafe_4cfef fu  a0 a1 a2 a3 M1 hB eM2
  obtain rfl := Option.some.inj h
  exact hB
theorem eJ11_isValidCodePoint_9a6ad (fu : Nat) {out : Int32 × Mm}   (a0 : Int32)  (M : Mm) (hB : Lst0 M) (h : fJ11_isValidCodePoint_9a6ad fu  a0 M = some out) : Lst0 out.2 := by
  unfold fJ11_isValidCodePoint_9a6ad at h
  by_cases hc : (17 : Int32) ≤ (ushr a0 (16 : Int32))
  · have h := (if_pos hc).symm.trans h
    obtain ⟨hz, rfl⟩ := rN_some h
    exact hB
  · have h := (if_neg hc).symm.trans h
    obtain ⟨hz, rfl⟩ := rN_some h
    exact hB
theorem eJ11_highSurrogate_5068e (fu : Nat) {out : Int32 × Mm}   (a0 : Int32)  (M : Mm) (hB : Lst0 M) (h : fJ11_highSurrogate_5068e fu  a0 M = some out) : Lst0 out.2 := by
  unfold fJ11_highSurrogate_5068e at h
  obtain ⟨hz, rfl⟩ := rN_some h
  exact hB
theorem eJ11_lowSurrogate_5068e (fu : Nat) {out : Int32 × Mm}   (a0 : Int32)  (M : Mm) (hB : Lst0 M) (h : fJ11_lowSurrogate_5068e fu  a0 M = some out) : Lst0 out.2 := by
  unfold fJ11_lowSurrogate_5068e at h
  obtain ⟨hz, rfl⟩ := rN_some h
  exact hB
theorem eJ2_indexOfSupplementary_4cfef_L63 (fu : Nat) {out : Int32 × Mm} (k28 : Option Nat → Int32 → Int32 → Int32 → Int32 → Mm → Option (Int32 × Mm)) (hk28 : ∀ (b0 : Option Nat) (b3 : Int32) (b4 : Int32) (b5 : Int32) (b6 : Int32)  (M : Mm), Lst0 M → k28 b0 b3 b4 b5 b6 M = some out → Lst0 out.2) (a0 : Option Nat) (a3 : Int32) (a4 : Int32) (a5 : Int32) (a6 : Int32)  (M : Mm) (hB : Lst0 M) (h : fJ2_indexOfSupplementary_4cfef_L63 fu k28 a0 a3 a4 a5 a6 M = some out) : Lst0 out.2 := by
  unfold fJ2_indexOfSupplementary_4cfef_L63 at h
  exact hk28 a0 a3 a4 a5 (a6 + (1 : Int32)) M hB h
theorem eJ2_indexOfSupplementary_4cfef_L28 (fu : Nat) {out : Int32 × Mm}   : ∀ (n : Nat) (a0 : Option Nat) (a3 : Int32) (a4 : Int32) (a5 : Int32) (a6 : Int32)  (M : Mm), Lst0 M → fJ2_indexOfSupplementary_4cfef_L28 fu  n a0 a3 a4 a5 a6 M = some out → Lst0 out.2 := by
  intro n
  induction n with
  | zero =>
    intro a0 a3 a4 a5 a6 M hB h
    have h : (none : Option (Int32 × Mm)) = some out := h
    cases h
  | succ n ih =>
    intro a0 a3 a4 a5 a6 M hB h
    rw [fJ2_indexOfSupplementary_4cfef_L28] at h
    by_cases hc : (a3 - (1 : Int32)) ≤ a6
    · have h := (if_pos hc).symm.trans h
      obtain rfl := Option.some.inj h
      exact hB
    · have h := (if_neg hc).symm.trans h
      cases h
theorem eJ2_indexOfSupplementary_4cfef (fu : Nat) {out : Int32 × Mm}   (a0 : Option Nat) (a1 : Int32) (a2 : Int32) (a3 : Int32)  (M : Mm) (hB : Lst0 M) (h : fJ2_indexOfSupplementary_4cfef fu  a0 a1 a2 a3 M = some out) : Lst0 out.2 := by
  unfold fJ2_indexOfSupplementary_4cfef at h
  obtain ⟨v2, M1, eM1, h⟩ := b2d h
  have hB := eJ11_isValidCodePoint_9a6ad fu  a1 M hB eM1
  by_cases hc : v2 = 0
  · have h := (if_pos hc).symm.trans h
    obtain rfl := Option.some.inj h
    exact hB
  · have h := (if_neg hc).symm.trans h
    obtain ⟨v4, M3, eM3, h⟩ := b2d h
    have hB := eJ11_highSurrogate_5068e fu  a1 M1 hB eM3
    obtain ⟨v6, M5, eM5, h⟩ := b2d h
    have hB := eJ11_lowSurrogate_5068e fu  a1 M3 hB eM5
    obtain ⟨M7, eM7, h⟩ := bd h
    have hB := eJ2_checkBoundsBeginEnd_d044e fu  a2 a3 a0 M5 hB eM7
    exact eJ2_indexOfSupplementary_4cfef_L28 fu   fu a0 a3 v4 v6 a2 M7 hB h
theorem eJ2_indexOf_4cfef (fu : Nat) {out : Int32 × Mm}   (a0 : Option Nat) (a1 : Int32) (a2 : Int32) (a3 : Int32)  (M : Mm) (hB : Lst0 M) (h : fJ2_indexOf_4cfef fu  a0 a1 a2 a3 M = some out) : Lst0 out.2 := by
  unfold fJ2_indexOf_4cfef at h
  obtain ⟨v1, ev1, h⟩ := bd h
  by_cases hc : (jmax a2 (0 : Int32)) < (jmin a3 (v1 >>> ((1 : Int32) &&& 31)))
  · have h := (if_pos hc).symm.trans h
    by_cases hc : (65536 : Int32) ≤ a1
    · have h := (if_pos hc).symm.trans h
      obtain ⟨v3, M2, eM2, h⟩ := b2d h
      have hB := eJ2_indexOfSupplementary_4cfef fu  a0 a1 (jmax a2 (0 : Int32)) (jmin a3 (v1 >>> ((1 : Int32) &&& 31))) M hB eM2
      obtain rfl := Option.some.inj h
      exact hB
    · have h := (if_neg hc).symm.trans h
      obtain ⟨v5, M4, eM4, h⟩ := b2d h
      have hB := eJ2_indexOfChar_4cfef fu  a0 a1 (jmax a2 (0 : Int32)) (jmin a3 (v1 >>> ((1 : Int32) &&& 31))) M hB eM4
      obtain rfl := Option.some.inj h
      exact hB
  · have h := (if_neg hc).symm.trans h
    obtain rfl := Option.some.inj h
    exact hB
theorem eJ0_indexOf_7cf53 (fu : Nat) {out : Int32 × Mm}   (a0 : Nat) (a1 : Int32) (a2 : Int32)  (M : Mm) (hB : Lst0 M) (h : fJ0_indexOf_7cf53 fu  a0 a1 a2 M = some out) : Lst0 out.2 := by
  unfold fJ0_indexOf_7cf53 at h
  obtain ⟨q1, eq1, h⟩ := bd h
  obtain ⟨v3, M2, eM2, h⟩ := b2d h
  have hB := eJ0_isLatin1_aae02 fu q1  M hB eM2
  by_cases hc : v3 = 0
  · have h := (if_pos hc).symm.trans h
    obtain ⟨v4, ev4, h⟩ := bd h
    obtain ⟨q5, eq5, h⟩ := bd h
    obtain ⟨v7, M6, eM6, h⟩ := b2d h
    have hB := eJ0_length_8abf5 fu q5  M2 hB eM6
    obtain ⟨v9, M8, eM8, h⟩ := b2d h
    have hB := eJ2_indexOf_4cfef fu  v4 a1 a2 v7 M6 hB eM8
    obtain rfl := Option.some.inj h
    exact hB
  · have h := (if_neg hc).symm.trans h
    obtain ⟨v10, ev10, h⟩ := bd h
    obtain ⟨q11, eq11, h⟩ := bd h
    obtain ⟨v13, M12, eM12, h⟩ := b2d h
    have hB := eJ0_length_8abf5 fu q11  M2 hB eM12
    obtain ⟨v15, M14, eM14, h⟩ := b2d h
    have hB := eJ1_indexOf_4cfef fu  v10 a1 a2 v13 M12 hB eM14
    obtain rfl := Option.some.inj h
    exact hB
theorem eJ0_indexOf_0f7a4 (fu : Nat) {out : Int32 × Mm}   (a0 : Nat) (a1 : Int32)  (M : Mm) (hB : Lst0 M) (h : fJ0_indexOf_0f7a4 fu  a0 a1 M = some out) : Lst0 out.2 := by
  unfold fJ0_indexOf_0f7a4 at h
  obtain ⟨q1, eq1, h⟩ := bd h
  obtain ⟨v3, M2, eM2, h⟩ := b2d h
  have hB := eJ0_indexOf_7cf53 fu q1 a1 (0 : Int32) M hB eM2
  obtain rfl := Option.some.inj h
  exact hB
theorem eX7_isNameCode_L38 (fu : Nat) {out : Int32 × Mm}   (a0 : Int32)  (M : Mm) (hB : Lst0 M) (h : fX7_isNameCode_L38 fu  a0 M = some out) : Lst0 out.2 := by
  unfold fX7_isNameCode_L38 at h
  by_cases hc : (128 : Int32) ≤ a0
  · have h := (if_pos hc).symm.trans h
    obtain ⟨hz, rfl⟩ := rN_some h
    exact hB
  · have h := (if_neg hc).symm.trans h
    obtain ⟨q1, eq1, h⟩ := bd h
    obtain ⟨v3, M2, eM2, h⟩ := b2d h
    have hB := eJ0_indexOf_0f7a4 fu q1 (i2c a0) M hB eM2
    by_cases hc : v3 < 0
    · have h := (if_pos hc).symm.trans h
      obtain ⟨hz, rfl⟩ := rN_some h
      exact hB
    · have h := (if_neg hc).symm.trans h
      obtain ⟨hz, rfl⟩ := rN_some h
      exact hB
theorem eX7_isNameCode_L24 (fu : Nat) {out : Int32 × Mm}   (a0 : Int32)  (M : Mm) (hB : Lst0 M) (h : fX7_isNameCode_L24 fu  a0 M = some out) : Lst0 out.2 := by
  unfold fX7_isNameCode_L24 at h
  by_cases hc : a0 < (48 : Int32)
  · have h := (if_pos hc).symm.trans h
    exact eX7_isNameCode_L38 fu    a0 M hB h
  · have h := (if_neg hc).symm.trans h
    by_cases hc : (57 : Int32) < a0
    · have h := (if_pos hc).symm.trans h
      exact eX7_isNameCode_L38 fu    a0 M hB h
    · have h := (if_neg hc).symm.trans h
      obtain ⟨hz, rfl⟩ := rN_some h
      exact hB
theorem eX7_isNameCode_L12 (fu : Nat) {out : Int32 × Mm}   (a0 : Int32)  (M : Mm) (hB : Lst0 M) (h : fX7_isNameCode_L12 fu  a0 M = some out) : Lst0 out.2 := by
  unfold fX7_isNameCode_L12 at h
  by_cases hc : a0 < (65 : Int32)
  · have h := (if_pos hc).symm.trans h
    exact eX7_isNameCode_L24 fu    a0 M hB h
  · have h := (if_neg hc).symm.trans h
    by_cases hc : a0 ≤ (90 : Int32)
    · have h := (if_pos hc).symm.trans h
      obtain ⟨hz, rfl⟩ := rN_some h
      exact hB
    · have h := (if_neg hc).symm.trans h
      exact eX7_isNameCode_L24 fu    a0 M hB h
theorem eX7_isNameCode (fu : Nat) {out : Int32 × Mm}   (a0 : Int32)  (M : Mm) (hB : Lst0 M) (h : fX7_isNameCode fu  a0 M = some out) : Lst0 out.2 := by
  unfold fX7_isNameCode at h
  by_cases hc : a0 < (97 : Int32)
  · have h := (if_pos hc).symm.trans h
    exact eX7_isNameCode_L12 fu    a0 M hB h
  · have h := (if_neg hc).symm.trans h
    by_cases hc : a0 ≤ (122 : Int32)
    · have h := (if_pos hc).symm.trans h
      obtain ⟨hz, rfl⟩ := rN_some h
      exact hB
    · have h := (if_neg hc).symm.trans h
      exact eX7_isNameCode_L12 fu    a0 M hB h
theorem eX7_isBlank (fu : Nat) {out : Int32 × Mm}   (a0 : Int32)  (M : Mm) (hB : Lst0 M) (h : fX7_isBlank fu  a0 M = some out) : Lst0 out.2 := by
  unfold fX7_isBlank at h
  by_cases hc : a0 = (32 : Int32)
  · have h := (if_pos hc).symm.trans h
    obtain ⟨hz, rfl⟩ := rN_some h
    exact hB
  · have h := (if_neg hc).symm.trans h
    by_cases hc : a0 = (9 : Int32)
    · have h := (if_pos hc).symm.trans h
      obtain ⟨hz, rfl⟩ := rN_some h
      exact hB
    · have h := (if_neg hc).symm.trans h
      obtain ⟨hz, rfl⟩ := rN_some h
      exact hB
theorem eX7_isWord_L61 (fu : Nat) {out : Int32 × Mm} (k15 : Nat → Int32 → Option Nat → Int32 → Mm → Option (Int32 × Mm)) (hk15 : ∀ (b0 : Nat) (b1 : Int32) (b3 : Option Nat) (b4 : Int32)  (M : Mm), Lst0 M → k15 b0 b1 b3 b4 M = some out → Lst0 out.2) (a0 : Nat) (a1 : Int32) (a3 : Option Nat) (a4 : Int32) (s0 : Int32) (M : Mm) (hB : Lst0 M) (h : fX7_isWord_L61 fu k15 a0 a1 a3 a4 s0 M = some out) : Lst0 out.2 := by
  unfold fX7_isWord_L61 at h
  obtain ⟨q1, eq1, h⟩ := bd h
  obtain ⟨v3, M2, eM2, h⟩ := b2d h
  have hB := eJ0_charAt_5068e fu q1 a4 M hB eM2
  by_cases hc : s0 = v3
  · have h := (if_pos hc).symm.trans h
    exact hk15 a0 a1 a3 (a4 + (1 : Int32)) M2 hB h
  · have h := (if_neg hc).symm.trans h
    obtain ⟨hz, rfl⟩ := rN_some h
    exact hB
theorem eX7_isWord_L59 (fu : Nat) {out : Int32 × Mm} (k15 : Nat → Int32 → Option Nat → Int32 → Mm → Option (Int32 × Mm)) (hk15 : ∀ (b0 : Nat) (b1 : Int32) (b3 : Option Nat) (b4 : Int32)  (M : Mm), Lst0 M → k15 b0 b1 b3 b4 M = some out → Lst0 out.2) (a0 : Nat) (a1 : Int32) (a3 : Option Nat) (a4 : Int32) (a5 : Int32)  (M : Mm) (hB : Lst0 M) (h : fX7_isWord_L59 fu k15 a0 a1 a3 a4 a5 M = some out) : Lst0 out.2 := by
  unfold fX7_isWord_L59 at h
  exact eX7_isWord_L61 fu k15 hk15  a0 a1 a3 a4 a5 M hB h
theorem eX7_isWord_L15 (fu : Nat) {out : Int32 × Mm}   : ∀ (n : Nat) (a0 : Nat) (a1 : Int32) (a3 : Option Nat) (a4 : Int32)  (M : Mm), Lst0 M → fX7_isWord_L15 fu  n a0 a1 a3 a4 M = some out → Lst0 out.2 := by
  intro n
  induction n with
  | zero =>
    intro a0 a1 a3 a4 M hB h
    have h : (none : Option (Int32 × Mm)) = some out := h
    cases h
  | succ n ih =>
    intro a0 a1 a3 a4 M hB h
    rw [fX7_isWord_L15] at h
    obtain ⟨q1, eq1, h⟩ := bd h
    obtain ⟨v3, M2, eM2, h⟩ := b2d h
    have hB := eJ0_length_8abf5 fu q1  M hB eM2
    by_cases hc : v3 ≤ a4
    · have h := (if_pos hc).symm.trans h
      obtain ⟨hz, rfl⟩ := rN_some h
      exact hB
    · have h := (if_neg hc).symm.trans h
      obtain ⟨v4, ev4, h⟩ := bd h
      obtain ⟨v6, M5, eM5, h⟩ := b2d h
      have hB := eX11_one fu  v4 (a1 + a4) M2 hB eM5
      by_cases hc : v6 < (65 : Int32)
      · have h := (if_pos hc).symm.trans h
        exact eX7_isWord_L59 fu (fun b0 b1 b3 b4 M => fX7_isWord_L15 fu  n b0 b1 b3 b4 M) ih  a0 a1 a3 a4 v6 M5 hB h
      · have h := (if_neg hc).symm.trans h
        by_cases hc : (90 : Int32) < v6
        · have h := (if_pos hc).symm.trans h
          exact eX7_isWord_L59 fu (fun b0 b1 b3 b4 M => fX7_isWord_L15 fu  n b0 b1 b3 b4 M) ih  a0 a1 a3 a4 v6 M5 hB h
        · have h := (if_neg hc).symm.trans h
          exact eX7_isWord_L61 fu (fun b0 b1 b3 b4 M => fX7_isWord_L15 fu  n b0 b1 b3 b4 M) ih  a0 a1 a3 a4 (v6 + (32 : Int32)) M5 hB h
theorem eX7_isWord (fu : Nat) {out : Int32 × Mm}   (a0 : Nat) (a1 : Int32) (a2 : Int32) (a3 : Option Nat)  (M : Mm) (hB : Lst0 M) (h : fX7_isWord fu  a0 a1 a2 a3 M = some out) : Lst0 out.2 := by
  unfold fX7_isWord at h
  obtain ⟨q1, eq1, h⟩ := bd h
  obtain ⟨v3, M2, eM2, h⟩ := b2d h
  have hB := eJ0_length_8abf5 fu q1  M hB eM2
  by_cases hc : (a2 - a1) = v3
  · have h := (if_pos hc).symm.trans h
    exact eX7_isWord_L15 fu   fu a0 a1 a3 (0 : Int32) M2 hB h
  · have h := (if_neg hc).symm.trans h
    obtain ⟨hz, rfl⟩ := rN_some h
    exact hB
theorem eX7_decimal_L20 (fu : Nat) {out : Int32 × Mm}   : ∀ (n : Nat) (a0 : Nat) (a2 : Int32) (a3 : Int32) (a4 : Int32)  (M : Mm), Lst0 M → fX7_decimal_L20 fu  n a0 a2 a3 a4 M = some out → Lst0 out.2 := by
  intro n
  induction n with
  | zero =>
    intro a0 a2 a3 a4 M hB h
    have h : (none : Option (Int32 × Mm)) = some out := h
    cases h
  | succ n ih =>
    intro a0 a2 a3 a4 M hB h
    rw [fX7_decimal_L20] at h
    by_cases hc : a2 ≤ a4
    · have h := (if_pos hc).symm.trans h
      obtain rfl := Option.some.inj h
      exact hB
    · have h := (if_neg hc).symm.trans h
      obtain ⟨v1, ev1, h⟩ := bd h
      obtain ⟨v3, M2, eM2, h⟩ := b2d h
      have hB := eX11_one fu  v1 a4 M hB eM2
      by_cases hc : (v3 - (48 : Int32)) < 0
      · have h := (if_pos hc).symm.trans h
        obtain rfl := Option.some.inj h
        exact hB
      · have h := (if_neg hc).symm.trans h
        by_cases hc : (v3 - (48 : Int32)) ≤ (9 : Int32)
        · have h := (if_pos hc).symm.trans h
          obtain ⟨v4, ev4, h⟩ := bd h
          exact ih a0 a2 v4 (a4 + (1 : Int32)) M2 hB h
        · have h := (if_neg hc).symm.trans h
          obtain rfl := Option.some.inj h
          exact hB
theorem eX7_decimal (fu : Nat) {out : Int32 × Mm}   (a0 : Nat) (a1 : Int32) (a2 : Int32)  (M : Mm) (hB : Lst0 M) (h : fX7_decimal fu  a0 a1 a2 M = some out) : Lst0 out.2 := by
  unfold fX7_decimal at h
  by_cases hc : a2 ≤ a1
  · have h := (if_pos hc).symm.trans h
    obtain rfl := Option.some.inj h
    exact hB
  · have h := (if_neg hc).symm.trans h
    by_cases hc : (a2 - a1) ≤ (9 : Int32)
    · have h := (if_pos hc).symm.trans h
      exact eX7_decimal_L20 fu   fu a0 a2 (0 : Int32) a1 M hB h
    · have h := (if_neg hc).symm.trans h
      obtain rfl := Option.some.inj h
      exact hB
theorem eX7_noteWords_L110 (fu : Nat) {out : Mm} (k5 : Nat → Int32 → Int32 → Int32 → Mm → Option (Mm)) (hk5 : ∀ (b0 : Nat) (b2 : Int32) (b3 : Int32) (b4 : Int32)  (M : Mm), Lst0 M → k5 b0 b2 b3 b4 M = some out → Lst0 out) (a0 : Nat) (a2 : Int32) (a3 : Int32) (a4 : Int32)  (M : Mm) (hB : Lst0 M) (h : fX7_noteWords_L110 fu k5 a0 a2 a3 a4 M = some out) : Lst0 out := by
  unfold fX7_noteWords_L110 at h
  exact hk5 a0 a2 a3 (a4 + (1 : Int32)) M hB h
theorem eX7_noteWords_L102 (fu : Nat) {out : Mm} (k5 : Nat → Int32 → Int32 → Int32 → Mm → Option (Mm)) (hk5 : ∀ (b0 : Nat) (b2 : Int32) (b3 : Int32) (b4 : Int32)  (M : Mm), Lst0 M → k5 b0 b2 b3 b4 M = some out → Lst0 out) (a0 : Nat) (a2 : Int32) (a4 : Int32) (s0 : Option Nat) (s1 : Int32) (M : Mm) (hB : Lst0 M) (h : fX7_noteWords_L102 fu k5 a0 a2 a4 s0 s1 M = some out) : Lst0 out := by
  unfold fX7_noteWords_L102 at h
  obtain ⟨M1, eM1, h⟩ := bd h
  have hB := e_pZ hB eM1
  exact eX7_noteWords_L110 fu k5 hk5  a0 a2 (a4 + (1 : Int32)) a4 M1 hB h
theorem eX7_noteWords_L97 (fu : Nat) {out : Mm} (k5 : Nat → Int32 → Int32 → Int32 → Mm → Option (Mm)) (hk5 : ∀ (b0 : Nat) (b2 : Int32) (b3 : Int32) (b4 : Int32)  (M : Mm), Lst0 M → k5 b0 b2 b3 b4 M = some out → Lst0 out) (a0 : Nat) (a2 : Int32) (a4 : Int32) (s0 : Option Nat) (M : Mm) (hB : Lst0 M) (h : fX7_noteWords_L97 fu k5 a0 a2 a4 s0 M = some out) : Lst0 out := by
  unfold fX7_noteWords_L97 at h
  exact eX7_noteWords_L102 fu k5 hk5  a0 a2 a4 s0 (1 : Int32) M hB h
theorem eX7_noteWords_L74 (fu : Nat) {out : Mm} (k5 : Nat → Int32 → Int32 → Int32 → Mm → Option (Mm)) (hk5 : ∀ (b0 : Nat) (b2 : Int32) (b3 : Int32) (b4 : Int32)  (M : Mm), Lst0 M → k5 b0 b2 b3 b4 M = some out → Lst0 out) (a0 : Nat) (a2 : Int32) (a3 : Int32) (a4 : Int32) (s0 : Option Nat) (s1 : Int32) (M : Mm) (hB : Lst0 M) (h : fX7_noteWords_L74 fu k5 a0 a2 a3 a4 s0 s1 M = some out) : Lst0 out := by
  unfold fX7_noteWords_L74 at h
  obtain ⟨M1, eM1, h⟩ := bd h
  have hB := e_pZ hB eM1
  obtain ⟨v2, ev2, h⟩ := bd h
  by_cases hc : v2 = 0
  · have h := (if_pos hc).symm.trans h
    obtain ⟨q3, eq3, h⟩ := bd h
    obtain ⟨v5, M4, eM4, h⟩ := b2d h
    have hB := eX7_isWord fu q3 a3 a4 (some 11) M1 hB eM4
    by_cases hc : v5 = 0
    · have h := (if_pos hc).symm.trans h
      exact eX7_noteWords_L102 fu k5 hk5  a0 a2 a4 (some a0) (0 : Int32) M4 hB h
    · have h := (if_neg hc).symm.trans h
      exact eX7_noteWords_L97 fu k5 hk5  a0 a2 a4 (some a0) M4 hB h
  · have h := (if_neg hc).symm.trans h
    exact eX7_noteWords_L97 fu k5 hk5  a0 a2 a4 (some a0) M1 hB h
theorem eX7_noteWords_L69 (fu : Nat) {out : Mm} (k5 : Nat → Int32 → Int32 → Int32 → Mm → Option (Mm)) (hk5 : ∀ (b0 : Nat) (b2 : Int32) (b3 : Int32) (b4 : Int32)  (M : Mm), Lst0 M → k5 b0 b2 b3 b4 M = some out → Lst0 out) (a0 : Nat) (a2 : Int32) (a3 : Int32) (a4 : Int32) (s0 : Option Nat) (M : Mm) (hB : Lst0 M) (h : fX7_noteWords_L69 fu k5 a0 a2 a3 a4 s0 M = some out) : Lst0 out := by
  unfold fX7_noteWords_L69 at h
  exact eX7_noteWords_L74 fu k5 hk5  a0 a2 a3 a4 s0 (1 : Int32) M hB h
theorem eX7_noteWords_L49 (fu : Nat) {out : Mm} (k5 : Nat → Int32 → Int32 → Int32 → Mm → Option (Mm)) (hk5 : ∀ (b0 : Nat) (b2 : Int32) (b3 : Int32) (b4 : Int32)  (M : Mm), Lst0 M → k5 b0 b2 b3 b4 M = some out → Lst0 out) (a0 : Nat) (a2 : Int32) (a3 : Int32) (a4 : Int32)  (M : Mm) (hB : Lst0 M) (h : fX7_noteWords_L49 fu k5 a0 a2 a3 a4 M = some out) : Lst0 out := by
  unfold fX7_noteWords_L49 at h
  obtain ⟨v1, ev1, h⟩ := bd h
  by_cases hc : v1 = 0
  · have h := (if_pos hc).symm.trans h
    obtain ⟨q2, eq2, h⟩ := bd h
    obtain ⟨v4, M3, eM3, h⟩ := b2d h
    have hB := eX7_isWord fu q2 a3 a4 (some 10) M hB eM3
    by_cases hc : v4 = 0
    · have h := (if_pos hc).symm.trans h
      exact eX7_noteWords_L74 fu k5 hk5  a0 a2 a3 a4 (some a0) (0 : Int32) M3 hB h
    · have h := (if_neg hc).symm.trans h
      exact eX7_noteWords_L69 fu k5 hk5  a0 a2 a3 a4 (some a0) M3 hB h
  · have h := (if_neg hc).symm.trans h
    exact eX7_noteWords_L69 fu k5 hk5  a0 a2 a3 a4 (some a0) M hB h
theorem eX7_noteWords_L5 (fu : Nat) {out : Mm}   : ∀ (n : Nat) (a0 : Nat) (a2 : Int32) (a3 : Int32) (a4 : Int32)  (M : Mm), Lst0 M → fX7_noteWords_L5 fu  n a0 a2 a3 a4 M = some out → Lst0 out := by
  intro n
  induction n with
  | zero =>
    intro a0 a2 a3 a4 M hB h
    have h : (none : Option (Mm)) = some out := h
    cases h
  | succ n ih =>
    intro a0 a2 a3 a4 M hB h
    rw [fX7_noteWords_L5] at h
    by_cases hc : a2 < a4
    · have h := (if_pos hc).symm.trans h
      obtain rfl := Option.some.inj h
      exact hB
    · have h := (if_neg hc).symm.trans h
      by_cases hc : a2 ≤ a4
      · have h := (if_pos hc).symm.trans h
        exact eX7_noteWords_L49 fu (fun b0 b2 b3 b4 M => fX7_noteWords_L5 fu  n b0 b2 b3 b4 M) ih  a0 a2 a3 a4 M hB h
      · have h := (if_neg hc).symm.trans h
        obtain ⟨v1, ev1, h⟩ := bd h
        obtain ⟨v3, M2, eM2, h⟩ := b2d h
        have hB := eX11_one fu  v1 a4 M hB eM2
        by_cases hc : v3 = (44 : Int32)
        · have h := (if_pos hc).symm.trans h
          exact eX7_noteWords_L49 fu (fun b0 b2 b3 b4 M => fX7_noteWords_L5 fu  n b0 b2 b3 b4 M) ih  a0 a2 a3 a4 M2 hB h
        · have h := (if_neg hc).symm.trans h
          obtain ⟨v4, ev4, h⟩ := bd h
          obtain ⟨v6, M5, eM5, h⟩ := b2d h
          have hB := eX11_one fu  v4 a4 M2 hB eM5
          obtain ⟨v8, M7, eM7, h⟩ := b2d h
          have hB := eX7_isBlank fu  v6 M5 hB eM7
          by_cases hc : v8 = 0
          · have h := (if_pos hc).symm.trans h
            exact eX7_noteWords_L110 fu (fun b0 b2 b3 b4 M => fX7_noteWords_L5 fu  n b0 b2 b3 b4 M) ih  a0 a2 a3 a4 M7 hB h
          · have h := (if_neg hc).symm.trans h
            exact eX7_noteWords_L49 fu (fun b0 b2 b3 b4 M => fX7_noteWords_L5 fu  n b0 b2 b3 b4 M) ih  a0 a2 a3 a4 M7 hB h
theorem eX7_noteWords (fu : Nat) {out : Mm}   (a0 : Nat) (a1 : Int32) (a2 : Int32)  (M : Mm) (hB : Lst0 M) (h : fX7_noteWords fu  a0 a1 a2 M = some out) : Lst0 out := by
  unfold fX7_noteWords at h
  exact eX7_noteWords_L5 fu   fu a0 a2 a1 a1 M hB h
theorem eX7_note (fu : Nat) {out : Mm}   (a0 : Nat) (a1 : Int32) (a2 : Int32) (a3 : Int32) (a4 : Int32)  (M : Mm) (hB : Lst0 M) (h : fX7_note fu  a0 a1 a2 a3 a4 M = some out) : Lst0 out := by
  unfold fX7_note at h
  obtain ⟨q1, eq1, h⟩ := bd h
  obtain ⟨v3, M2, eM2, h⟩ := b2d h
  have hB := eX7_isWord fu q1 a1 a2 (some 5) M hB eM2
  by_cases hc : v3 = 0
  · have h := (if_pos hc).symm.trans h
    obtain ⟨q4, eq4, h⟩ := bd h
    obtain ⟨v6, M5, eM5, h⟩ := b2d h
    have hB := eX7_isWord fu q4 a1 a2 (some 6) M2 hB eM5
    by_cases hc : v6 = 0
    · have h := (if_pos hc).symm.trans h
      obtain ⟨q7, eq7, h⟩ := bd h
      obtain ⟨v9, M8, eM8, h⟩ := b2d h
      have hB := eX7_isWord fu q7 a1 a2 (some 7) M5 hB eM8
      by_cases hc : v9 = 0
      · have h := (if_pos hc).symm.trans h
        obtain ⟨q10, eq10, h⟩ := bd h
        obtain ⟨v12, M11, eM11, h⟩ := b2d h
        have hB := eX7_isWord fu q10 a1 a2 (some 8) M8 hB eM11
        by_cases hc : v12 = 0
        · have h := (if_pos hc).symm.trans h
          obtain ⟨q13, eq13, h⟩ := bd h
          obtain ⟨v15, M14, eM14, h⟩ := b2d h
          have hB := eX7_isWord fu q13 a1 a2 (some 9) M11 hB eM14
          by_cases hc : v15 = 0
          · have h := (if_pos hc).symm.trans h
            obtain rfl := Option.some.inj h
            exact hB
          · have h := (if_neg hc).symm.trans h
            obtain ⟨q16, eq16, h⟩ := bd h
            obtain ⟨M17, eM17, h⟩ := bd h
            have hB := eX7_noteWords fu q16 a3 a4 M14 hB eM17
            obtain rfl := Option.some.inj h
            exact hB
        · have h := (if_neg hc).symm.trans h
          obtain ⟨v18, ev18, h⟩ := bd h
          obtain ⟨M19, eM19, h⟩ := bd h
          have hB := e_pF hB eM19
          obtain ⟨M20, eM20, h⟩ := bd h
          have hB := e_pF hB eM20
          obtain ⟨M21, eM21, h⟩ := bd h
          have hB := e_pF hB eM21
          obtain rfl := Option.some.inj h
          exact hB
      · have h := (if_neg hc).symm.trans h
        obtain ⟨v22, ev22, h⟩ := bd h
        obtain ⟨M23, eM23, h⟩ := bd h
        have hB := e_pF hB eM23
        obtain ⟨q24, eq24, h⟩ := bd h
        obtain ⟨v26, M25, eM25, h⟩ := b2d h
        have hB := eX7_decimal fu q24 a3 a4 M23 hB eM25
        obtain ⟨M27, eM27, h⟩ := bd h
        have hB := e_pF hB eM27
        obtain rfl := Option.some.inj h
        exact hB
    · have h := (if_neg hc).symm.trans h
      obtain ⟨v28, ev28, h⟩ := bd h
      obtain ⟨M29, eM29, h⟩ := bd h
      have hB := e_pF hB eM29
      obtain rfl := Option.some.inj h
      exact hB
  · have h := (if_neg hc).symm.trans h
    obtain ⟨v30, ev30, h⟩ := bd h
    obtain ⟨M31, eM31, h⟩ := bd h
    have hB := e_pF hB eM31
    obtain rfl := Option.some.inj h
    exact hB
theorem eX7_readField_L153 (fu : Nat) {out : Int32 × Mm} (k121 : Nat → Int32 → Int32 → Int32 → Int32 → Int32 → Mm → Option (Int32 × Mm)) (hk121 : ∀ (b0 : Nat) (b1 : Int32) (b3 : Int32) (b4 : Int32) (b5 : Int32) (b6 : Int32)  (M : Mm), Lst0 M → k121 b0 b1 b3 b4 b5 b6 M = some out → Lst0 out.2) (a0 : Nat) (a1 : Int32) (a3 : Int32) (a4 : Int32) (a5 : Int32) (a6 : Int32) (a7 : Int32)  (M : Mm) (hB : Lst0 M) (h : fX7_readField_L153 fu k121 a0 a1 a3 a4 a5 a6 a7 M = some out) : Lst0 out.2 := by
  unfold fX7_readField_L153 at h
  by_cases hc : a7 = (127 : Int32)
  · have h := (if_pos hc).symm.trans h
    obtain ⟨hz, rfl⟩ := rN_some h
    exact hB
  · have h := (if_neg hc).symm.trans h
    exact hk121 a0 a1 a3 a4 a5 (a6 + (1 : Int32)) M hB h
theorem eX7_readField_L121 (fu : Nat) {out : Int32 × Mm}   : ∀ (n : Nat) (a0 : Nat) (a1 : Int32) (a3 : Int32) (a4 : Int32) (a5 : Int32) (a6 : Int32)  (M : Mm), Lst0 M → fX7_readField_L121 fu  n a0 a1 a3 a4 a5 a6 M = some out → Lst0 out.2 := by
  intro n
  induction n with
  | zero =>
    intro a0 a1 a3 a4 a5 a6 M hB h
    have h : (none : Option (Int32 × Mm)) = some out := h
    cases h
  | succ n ih =>
    intro a0 a1 a3 a4 a5 a6 M hB h
    rw [fX7_readField_L121] at h
    by_cases hc : a5 ≤ a6
    · have h := (if_pos hc).symm.trans h
      obtain ⟨q1, eq1, h⟩ := bd h
      obtain ⟨M2, eM2, h⟩ := bd h
      have hB := eX7_note fu q1 a1 a3 a4 a5 M hB eM2
      obtain ⟨hz, rfl⟩ := rN_some h
      exact hB
    · have h := (if_neg hc).symm.trans h
      obtain ⟨v3, ev3, h⟩ := bd h
      obtain ⟨v5, M4, eM4, h⟩ := b2d h
      have hB := eX11_one fu  v3 a6 M hB eM4
      by_cases hc : (32 : Int32) ≤ v5
      · have h := (if_pos hc).symm.trans h
        exact eX7_readField_L153 fu (fun b0 b1 b3 b4 b5 b6 M => fX7_readField_L121 fu  n b0 b1 b3 b4 b5 b6 M) ih  a0 a1 a3 a4 a5 a6 v5 M4 hB h
      · have h := (if_neg hc).symm.trans h
        by_cases hc : v5 = (9 : Int32)
        · have h := (if_pos hc).symm.trans h
          exact eX7_readField_L153 fu (fun b0 b1 b3 b4 b5 b6 M => fX7_readField_L121 fu  n b0 b1 b3 b4 b5 b6 M) ih  a0 a1 a3 a4 a5 a6 v5 M4 hB h
        · have h := (if_neg hc).symm.trans h
          obtain ⟨hz, rfl⟩ := rN_some h
          exact hB
theorem eX7_readField_L117 (fu : Nat) {out : Int32 × Mm}   (a0 : Nat) (a1 : Int32) (a3 : Int32) (a4 : Int32) (a5 : Int32)  (M : Mm) (hB : Lst0 M) (h : fX7_readField_L117 fu  a0 a1 a3 a4 a5 M = some out) : Lst0 out.2 := by
  unfold fX7_readField_L117 at h
  exact eX7_readField_L121 fu   fu a0 a1 a3 a4 a5 a4 M hB h
theorem eX7_readField_L87 (fu : Nat) {out : Int32 × Mm}   : ∀ (n : Nat) (a0 : Nat) (a1 : Int32) (a3 : Int32) (a4 : Int32) (a5 : Int32)  (M : Mm), Lst0 M → fX7_readField_L87 fu  n a0 a1 a3 a4 a5 M = some out → Lst0 out.2 := by
  intro n
  induction n with
  | zero =>
    intro a0 a1 a3 a4 a5 M hB h
    have h : (none : Option (Int32 × Mm)) = some out := h
    cases h
  | succ n ih =>
    intro a0 a1 a3 a4 a5 M hB h
    rw [fX7_readField_L87] at h
    by_cases hc : a5 ≤ a4
    · have h := (if_pos hc).symm.trans h
      exact eX7_readField_L117 fu    a0 a1 a3 a4 a5 M hB h
    · have h := (if_neg hc).symm.trans h
      obtain ⟨v1, ev1, h⟩ := bd h
      obtain ⟨v3, M2, eM2, h⟩ := b2d h
      have hB := eX11_one fu  v1 (a5 - (1 : Int32)) M hB eM2
      obtain ⟨v5, M4, eM4, h⟩ := b2d h
      have hB := eX7_isBlank fu  v3 M2 hB eM4
      by_cases hc : v5 = 0
      · have h := (if_pos hc).symm.trans h
        exact eX7_readField_L117 fu    a0 a1 a3 a4 a5 M4 hB h
      · have h := (if_neg hc).symm.trans h
        exact ih a0 a1 a3 a4 (a5 + (-1 : Int32)) M4 hB h
theorem eX7_readField_L84 (fu : Nat) {out : Int32 × Mm}   (a0 : Nat) (a1 : Int32) (a2 : Int32) (a3 : Int32) (a4 : Int32)  (M : Mm) (hB : Lst0 M) (h : fX7_readField_L84 fu  a0 a1 a2 a3 a4 M = some out) : Lst0 out.2 := by
  unfold fX7_readField_L84 at h
  exact eX7_readField_L87 fu   fu a0 a1 a3 a4 a2 M hB h
theorem eX7_readField_L57 (fu : Nat) {out : Int32 × Mm}   : ∀ (n : Nat) (a0 : Nat) (a1 : Int32) (a2 : Int32) (a3 : Int32) (a4 : Int32)  (M : Mm), Lst0 M → fX7_readField_L57 fu  n a0 a1 a2 a3 a4 M = some out → Lst0 out.2 := by
  intro n
  induction n with
  | zero =>
    intro a0 a1 a2 a3 a4 M hB h
    have h : (none : Option (Int32 × Mm)) = some out := h
    cases h
  | succ n ih =>
    intro a0 a1 a2 a3 a4 M hB h
    rw [fX7_readField_L57] at h
    by_cases hc : a2 ≤ a4
    · have h := (if_pos hc).symm.trans h
      exact eX7_readField_L84 fu    a0 a1 a2 a3 a4 M hB h
    · have h := (if_neg hc).symm.trans h
      obtain ⟨v1, ev1, h⟩ := bd h
      obtain ⟨v3, M2, eM2, h⟩ := b2d h
      have hB := eX11_one fu  v1 a4 M hB eM2
      obtain ⟨v5, M4, eM4, h⟩ := b2d h
      have hB := eX7_isBlank fu  v3 M2 hB eM4
      by_cases hc : v5 = 0
      · have h := (if_pos hc).symm.trans h
        exact eX7_readField_L84 fu    a0 a1 a2 a3 a4 M4 hB h
      · have h := (if_neg hc).symm.trans h
        exact ih a0 a1 a2 a3 (a4 + (1 : Int32)) M4 hB h
theorem eX7_readField_L27 (fu : Nat) {out : Int32 × Mm}   (a0 : Nat) (a1 : Int32) (a2 : Int32) (a3 : Int32)  (M : Mm) (hB : Lst0 M) (h : fX7_readField_L27 fu  a0 a1 a2 a3 M = some out) : Lst0 out.2 := by
  unfold fX7_readField_L27 at h
  by_cases hc : a3 = a1
  · have h := (if_pos hc).symm.trans h
    obtain ⟨hz, rfl⟩ := rN_some h
    exact hB
  · have h := (if_neg hc).symm.trans h
    by_cases hc : a2 ≤ a3
    · have h := (if_pos hc).symm.trans h
      obtain ⟨hz, rfl⟩ := rN_some h
      exact hB
    · have h := (if_neg hc).symm.trans h
      obtain ⟨v1, ev1, h⟩ := bd h
      obtain ⟨v3, M2, eM2, h⟩ := b2d h
      have hB := eX11_one fu  v1 a3 M hB eM2
      by_cases hc : v3 = (58 : Int32)
      · have h := (if_pos hc).symm.trans h
        exact eX7_readField_L57 fu   fu a0 a1 a2 a3 (a3 + (1 : Int32)) M2 hB h
      · have h := (if_neg hc).symm.trans h
        obtain ⟨hz, rfl⟩ := rN_some h
        exact hB
theorem eX7_readField_L2 (fu : Nat) {out : Int32 × Mm}   : ∀ (n : Nat) (a0 : Nat) (a1 : Int32) (a2 : Int32) (a3 : Int32)  (M : Mm), Lst0 M → fX7_readField_L2 fu  n a0 a1 a2 a3 M = some out → Lst0 out.2 := by
  intro n
  induction n with
  | zero =>
    intro a0 a1 a2 a3 M hB h
    have h : (none : Option (Int32 × Mm)) = some out := h
    cases h
  | succ n ih =>
    intro a0 a1 a2 a3 M hB h
    rw [fX7_readField_L2] at h
    by_cases hc : a2 ≤ a3
    · have h := (if_pos hc).symm.trans h
      exact eX7_readField_L27 fu    a0 a1 a2 a3 M hB h
    · have h := (if_neg hc).symm.trans h
      obtain ⟨v1, ev1, h⟩ := bd h
      obtain ⟨v3, M2, eM2, h⟩ := b2d h
      have hB := eX11_one fu  v1 a3 M hB eM2
      obtain ⟨v5, M4, eM4, h⟩ := b2d h
      have hB := eX7_isNameCode fu  v3 M2 hB eM4
      by_cases hc : v5 = 0
      · have h := (if_pos hc).symm.trans h
        exact eX7_readField_L27 fu    a0 a1 a2 a3 M4 hB h
      · have h := (if_neg hc).symm.trans h
        exact ih a0 a1 a2 (a3 + (1 : Int32)) M4 hB h
theorem eX7_readField (fu : Nat) {out : Int32 × Mm}   (a0 : Nat) (a1 : Int32) (a2 : Int32)  (M : Mm) (hB : Lst0 M) (h : fX7_readField fu  a0 a1 a2 M = some out) : Lst0 out.2 := by
  unfold fX7_readField at h
  exact eX7_readField_L2 fu   fu a0 a1 a2 a1 M hB h
theorem eX7_hexDigit_L37 (fu : Nat) {out : Int32 × Mm}   (a0 : Int32)  (M : Mm) (hB : Lst0 M) (h : fX7_hexDigit_L37 fu  a0 M = some out) : Lst0 out.2 := by
  unfold fX7_hexDigit_L37 at h
  by_cases hc : a0 < (65 : Int32)
  · have h := (if_pos hc).symm.trans h
    obtain rfl := Option.some.inj h
    exact hB
  · have h := (if_neg hc).symm.trans h
    by_cases hc : (70 : Int32) < a0
    · have h := (if_pos hc).symm.trans h
      obtain rfl := Option.some.inj h
      exact hB
    · have h := (if_neg hc).symm.trans h
      obtain rfl := Option.some.inj h
      exact hB
theorem eX7_hexDigit_L17 (fu : Nat) {out : Int32 × Mm}   (a0 : Int32)  (M : Mm) (hB : Lst0 M) (h : fX7_hexDigit_L17 fu  a0 M = some out) : Lst0 out.2 := by
  unfold fX7_hexDigit_L17 at h
  by_cases hc : a0 < (97 : Int32)
  · have h := (if_pos hc).symm.trans h
    exact eX7_hexDigit_L37 fu    a0 M hB h
  · have h := (if_neg hc).symm.trans h
    by_cases hc : (102 : Int32) < a0
    · have h := (if_pos hc).symm.trans h
      exact eX7_hexDigit_L37 fu    a0 M hB h
    · have h := (if_neg hc).symm.trans h
      obtain rfl := Option.some.inj h
      exact hB
theorem eX7_hexDigit (fu : Nat) {out : Int32 × Mm}   (a0 : Int32)  (M : Mm) (hB : Lst0 M) (h : fX7_hexDigit fu  a0 M = some out) : Lst0 out.2 := by
  unfold fX7_hexDigit at h
  by_cases hc : a0 < (48 : Int32)
  · have h := (if_pos hc).symm.trans h
    exact eX7_hexDigit_L17 fu    a0 M hB h
  · have h := (if_neg hc).symm.trans h
    by_cases hc : (57 : Int32) < a0
    · have h := (if_pos hc).symm.trans h
      exact eX7_hexDigit_L17 fu    a0 M hB h
    · have h := (if_neg hc).symm.trans h
      obtain rfl := Option.some.inj h
      exact hB
theorem eX7_addToPath (fu : Nat) {out : Mm}   (a0 : Nat) (a1 : Int32)  (M : Mm) (hB : Lst0 M) (h : fX7_addToPath fu  a0 a1 M = some out) : Lst0 out := by
  unfold fX7_addToPath at h
  obtain ⟨v1, ev1, h⟩ := bd h
  obtain ⟨v2, ev2, h⟩ := bd h
  obtain ⟨v3, ev3, h⟩ := bd h
  by_cases hc : v3 ≤ v1
  · have h := (if_pos hc).symm.trans h
    obtain rfl := Option.some.inj h
    exact hB
  · have h := (if_neg hc).symm.trans h
    obtain ⟨v4, ev4, h⟩ := bd h
    obtain ⟨v5, ev5, h⟩ := bd h
    obtain ⟨M6, eM6, h⟩ := bd h
    have hB := e_pA hB eM6
    obtain ⟨v7, ev7, h⟩ := bd h
    obtain ⟨M8, eM8, h⟩ := bd h
    have hB := e_pF hB eM8
    obtain rfl := Option.some.inj h
    exact hB
theorem eX7_readPath_L160 (fu : Nat) {out : Int32 × Mm}   : ∀ (n : Nat) (a0 : Nat) (a2 : Option Nat) (a3 : Int32)  (M : Mm), Lst0 M → fX7_readPath_L160 fu  n a0 a2 a3 M = some out → Lst0 out.2 := by
  intro n
  induction n with
  | zero =>
    intro a0 a2 a3 M hB h
    have h : (none : Option (Int32 × Mm)) = some out := h
    cases h
  | succ n ih =>
    intro a0 a2 a3 M hB h
    rw [fX7_readPath_L160] at h
    obtain ⟨q1, eq1, h⟩ := bd h
    obtain ⟨v3, M2, eM2, h⟩ := b2d h
    have hB := eJ0_length_8abf5 fu q1  M hB eM2
    by_cases hc : v3 ≤ a3
    · have h := (if_pos hc).symm.trans h
      obtain ⟨hz, rfl⟩ := rN_some h
      exact hB
    · have h := (if_neg hc).symm.trans h
      obtain ⟨q4, eq4, h⟩ := bd h
      obtain ⟨v6, M5, eM5, h⟩ := b2d h
      have hB := eJ0_charAt_5068e fu q4 a3 M2 hB eM5
      obtain ⟨q7, eq7, h⟩ := bd h
      obtain ⟨M8, eM8, h⟩ := bd h
      have hB := eX7_addToPath fu q7 v6 M5 hB eM8
      exact ih a0 a2 (a3 + (1 : Int32)) M8 hB h
theorem eX7_readPath_L149 (fu : Nat) {out : Int32 × Mm}   (a0 : Nat) (a1 : Int32)  (M : Mm) (hB : Lst0 M) (h : fX7_readPath_L149 fu  a0 a1 M = some out) : Lst0 out.2 := by
  unfold fX7_readPath_L149 at h
  by_cases hc : a1 = (47 : Int32)
  · have h := (if_pos hc).symm.trans h
    exact eX7_readPath_L160 fu   fu a0 (some 12) (0 : Int32) M hB h
  · have h := (if_neg hc).symm.trans h
    obtain ⟨hz, rfl⟩ := rN_some h
    exact hB
theorem eX7_readPath_L138 (fu : Nat) {out : Int32 × Mm} (k12 : Nat → Int32 → Int32 → Mm → Option (Int32 × Mm)) (hk12 : ∀ (b0 : Nat) (b1 : Int32) (b2 : Int32)  (M : Mm), Lst0 M → k12 b0 b1 b2 M = some out → Lst0 out.2) (a0 : Nat) (a1 : Int32) (a2 : Int32)  (M : Mm) (hB : Lst0 M) (h : fX7_readPath_L138 fu k12 a0 a1 a2 M = some out) : Lst0 out.2 := by
  unfold fX7_readPath_L138 at h
  obtain ⟨q1, eq1, h⟩ := bd h
  obtain ⟨M2, eM2, h⟩ := bd h
  have hB := eX7_addToPath fu q1 a1 M hB eM2
  exact hk12 a0 a1 (a2 + (1 : Int32)) M2 hB h
theorem eX7_readPath_L103 (fu : Nat) {out : Int32 × Mm} (k12 : Nat → Int32 → Int32 → Mm → Option (Int32 × Mm)) (hk12 : ∀ (b0 : Nat) (b1 : Int32) (b2 : Int32)  (M : Mm), Lst0 M → k12 b0 b1 b2 M = some out → Lst0 out.2) (a0 : Nat) (a2 : Int32) (a3 : Int32) (s0 : Int32) (M : Mm) (hB : Lst0 M) (h : fX7_readPath_L103 fu k12 a0 a2 a3 s0 M = some out) : Lst0 out.2 := by
  unfold fX7_readPath_L103 at h
  by_cases hc : a3 < 0
  · have h := (if_pos hc).symm.trans h
    obtain ⟨hz, rfl⟩ := rN_some h
    exact hB
  · have h := (if_neg hc).symm.trans h
    by_cases hc : s0 < 0
    · have h := (if_pos hc).symm.trans h
      obtain ⟨hz, rfl⟩ := rN_some h
      exact hB
    · have h := (if_neg hc).symm.trans h
      by_cases hc : ((a3 <<< ((4 : Int32) &&& 31)) ||| s0) < (33 : Int32)
      · have h := (if_pos hc).symm.trans h
        obtain ⟨hz, rfl⟩ := rN_some h
        exact hB
      · have h := (if_neg hc).symm.trans h
        by_cases hc : ((a3 <<< ((4 : Int32) &&& 31)) ||| s0) ≤ (126 : Int32)
        · have h := (if_pos hc).symm.trans h
          exact eX7_readPath_L138 fu k12 hk12  a0 ((a3 <<< ((4 : Int32) &&& 31)) ||| s0) (a2 + (2 : Int32)) M hB h
        · have h := (if_neg hc).symm.trans h
          obtain ⟨hz, rfl⟩ := rN_some h
          exact hB
theorem eX7_readPath_L75 (fu : Nat) {out : Int32 × Mm} (k12 : Nat → Int32 → Int32 → Mm → Option (Int32 × Mm)) (hk12 : ∀ (b0 : Nat) (b1 : Int32) (b2 : Int32)  (M : Mm), Lst0 M → k12 b0 b1 b2 M = some out → Lst0 out.2) (a0 : Nat) (a2 : Int32) (s0 : Int32) (M : Mm) (hB : Lst0 M) (h : fX7_readPath_L75 fu k12 a0 a2 s0 M = some out) : Lst0 out.2 := by
  unfold fX7_readPath_L75 at h
  obtain ⟨v1, ev1, h⟩ := bd h
  by_cases hc : v1 ≤ (a2 + (2 : Int32))
  · have h := (if_pos hc).symm.trans h
    exact eX7_readPath_L103 fu k12 hk12  a0 a2 s0 (-1 : Int32) M hB h
  · have h := (if_neg hc).symm.trans h
    obtain ⟨v2, ev2, h⟩ := bd h
    obtain ⟨v4, M3, eM3, h⟩ := b2d h
    have hB := eX11_one fu  v2 (a2 + (2 : Int32)) M hB eM3
    obtain ⟨v6, M5, eM5, h⟩ := b2d h
    have hB := eX7_hexDigit fu  v4 M3 hB eM5
    exact eX7_readPath_L103 fu k12 hk12  a0 a2 s0 v6 M5 hB h
theorem eX7_readPath_L12 (fu : Nat) {out : Int32 × Mm}   : ∀ (n : Nat) (a0 : Nat) (a1 : Int32) (a2 : Int32)  (M : Mm), Lst0 M → fX7_readPath_L12 fu  n a0 a1 a2 M = some out → Lst0 out.2 := by
  intro n
  induction n with
  | zero =>
    intro a0 a1 a2 M hB h
    have h : (none : Option (Int32 × Mm)) = some out := h
    cases h
  | succ n ih =>
    intro a0 a1 a2 M hB h
    rw [fX7_readPath_L12] at h
    obtain ⟨v1, ev1, h⟩ := bd h
    by_cases hc : v1 ≤ a2
    · have h := (if_pos hc).symm.trans h
      exact eX7_readPath_L149 fu    a0 a1 M hB h
    · have h := (if_neg hc).symm.trans h
      obtain ⟨v2, ev2, h⟩ := bd h
      obtain ⟨v4, M3, eM3, h⟩ := b2d h
      have hB := eX11_one fu  v2 a2 M hB eM3
      by_cases hc : v4 = (63 : Int32)
      · have h := (if_pos hc).symm.trans h
        exact eX7_readPath_L149 fu    a0 a1 M3 hB h
      · have h := (if_neg hc).symm.trans h
        obtain ⟨v5, ev5, h⟩ := bd h
        obtain ⟨v7, M6, eM6, h⟩ := b2d h
        have hB := eX11_one fu  v5 a2 M3 hB eM6
        by_cases hc : v7 = (37 : Int32)
        · have h := (if_pos hc).symm.trans h
          obtain ⟨v8, ev8, h⟩ := bd h
          by_cases hc : v8 ≤ (a2 + (1 : Int32))
          · have h := (if_pos hc).symm.trans h
            exact eX7_readPath_L75 fu (fun b0 b1 b2 M => fX7_readPath_L12 fu  n b0 b1 b2 M) ih  a0 a2 (-1 : Int32) M6 hB h
          · have h := (if_neg hc).symm.trans h
            obtain ⟨v9, ev9, h⟩ := bd h
            obtain ⟨v11, M10, eM10, h⟩ := b2d h
            have hB := eX11_one fu  v9 (a2 + (1 : Int32)) M6 hB eM10
            obtain ⟨v13, M12, eM12, h⟩ := b2d h
            have hB := eX7_hexDigit fu  v11 M10 hB eM12
            exact eX7_readPath_L75 fu (fun b0 b1 b2 M => fX7_readPath_L12 fu  n b0 b1 b2 M) ih  a0 a2 v13 M12 hB h
        · have h := (if_neg hc).symm.trans h
          exact eX7_readPath_L138 fu (fun b0 b1 b2 M => fX7_readPath_L12 fu  n b0 b1 b2 M) ih  a0 v7 a2 M6 hB h
theorem eX7_readPath (fu : Nat) {out : Int32 × Mm}   (a0 : Nat)  (M : Mm) (hB : Lst0 M) (h : fX7_readPath fu  a0 M = some out) : Lst0 out.2 := by
  unfold fX7_readPath at h
  obtain ⟨M1, eM1, h⟩ := bd h
  have hB := e_pF hB eM1
  obtain ⟨v2, ev2, h⟩ := bd h
  exact eX7_readPath_L12 fu   fu a0 (0 : Int32) v2 M1 hB h
theorem eX8_find_L59 (fu : Nat) {out : Int32 × Mm} (k2 : Nat → Option Nat → Int32 → Int32 → Mm → Option (Int32 × Mm)) (hk2 : ∀ (b0 : Nat) (b1 : Option Nat) (b2 : Int32) (b3 : Int32)  (M : Mm), Lst0 M → k2 b0 b1 b2 b3 M = some out → Lst0 out.2) (a0 : Nat) (a1 : Option Nat) (a2 : Int32) (a3 : Int32) (a4 : Int32)  (M : Mm) (hB : Lst0 M) (h : fX8_find_L59 fu k2 a0 a1 a2 a3 a4 M = some out) : Lst0 out.2 := by
  unfold fX8_find_L59 at h
  by_cases hc : a4 = (48 : Int32)
  · have h := (if_pos hc).symm.trans h
    obtain rfl := Option.some.inj h
    exact hB
  · have h := (if_neg hc).symm.trans h
    exact hk2 a0 a1 a2 (a3 + (1 : Int32)) M hB h
theorem eX8_find_L50 (fu : Nat) {out : Int32 × Mm} (k2 : Nat → Option Nat → Int32 → Int32 → Mm → Option (Int32 × Mm)) (k13 : Nat → Option Nat → Int32 → Int32 → Int32 → Mm → Option (Int32 × Mm)) (hk2 : ∀ (b0 : Nat) (b1 : Option Nat) (b2 : Int32) (b3 : Int32)  (M : Mm), Lst0 M → k2 b0 b1 b2 b3 M = some out → Lst0 out.2) (hk13 : ∀ (b0 : Nat) (b1 : Option Nat) (b2 : Int32) (b3 : Int32) (b4 : Int32)  (M : Mm), Lst0 M → k13 b0 b1 b2 b3 b4 M = some out → Lst0 out.2) (a0 : Nat) (a1 : Option Nat) (a2 : Int32) (a3 : Int32) (a4 : Int32) (s0 : Int32) (s1 : Int32) (M : Mm) (hB : Lst0 M) (h : fX8_find_L50 fu k2 k13 a0 a1 a2 a3 a4 s0 s1 M = some out) : Lst0 out.2 := by
  unfold fX8_find_L50 at h
  by_cases hc : s0 = s1
  · have h := (if_pos hc).symm.trans h
    exact hk13 a0 a1 a2 a3 (a4 + (1 : Int32)) M hB h
  · have h := (if_neg hc).symm.trans h
    exact eX8_find_L59 fu k2 hk2  a0 a1 a2 a3 a4 M hB h
theorem eX8_find_L13 (fu : Nat) {out : Int32 × Mm} (k2 : Nat → Option Nat → Int32 → Int32 → Mm → Option (Int32 × Mm)) (hk2 : ∀ (b0 : Nat) (b1 : Option Nat) (b2 : Int32) (b3 : Int32)  (M : Mm), Lst0 M → k2 b0 b1 b2 b3 M = some out → Lst0 out.2) : ∀ (n : Nat) (a0 : Nat) (a1 : Option Nat) (a2 : Int32) (a3 : Int32) (a4 : Int32)  (M : Mm), Lst0 M → fX8_find_L13 fu k2 n a0 a1 a2 a3 a4 M = some out → Lst0 out.2 := by
  intro n
  induction n with
  | zero =>
    intro a0 a1 a2 a3 a4 M hB h
    have h : (none : Option (Int32 × Mm)) = some out := h
    cases h
  | succ n ih =>
    intro a0 a1 a2 a3 a4 M hB h
    rw [fX8_find_L13] at h
    by_cases hc : (48 : Int32) ≤ a4
    · have h := (if_pos hc).symm.trans h
      exact eX8_find_L59 fu k2 hk2  a0 a1 a2 a3 a4 M hB h
    · have h := (if_neg hc).symm.trans h
      obtain ⟨v1, ev1, h⟩ := bd h
      obtain ⟨v3, M2, eM2, h⟩ := b2d h
      have hB := eX11_one fu  v1 ((a3 * (64 : Int32)) + a4) M hB eM2
      by_cases hc : a2 ≤ a4
      · have h := (if_pos hc).symm.trans h
        exact eX8_find_L50 fu k2 (fun b0 b1 b2 b3 b4 M => fX8_find_L13 fu k2 n b0 b1 b2 b3 b4 M) hk2 ih  a0 a1 a2 a3 a4 v3 (0 : Int32) M2 hB h
      · have h := (if_neg hc).symm.trans h
        obtain ⟨v5, M4, eM4, h⟩ := b2d h
        have hB := eX11_one fu  a1 a4 M2 hB eM4
        exact eX8_find_L50 fu k2 (fun b0 b1 b2 b3 b4 M => fX8_find_L13 fu k2 n b0 b1 b2 b3 b4 M) hk2 ih  a0 a1 a2 a3 a4 v3 v5 M4 hB h
theorem eX8_find_L2 (fu : Nat) {out : Int32 × Mm}   : ∀ (n : Nat) (a0 : Nat) (a1 : Option Nat) (a2 : Int32) (a3 : Int32)  (M : Mm), Lst0 M → fX8_find_L2 fu  n a0 a1 a2 a3 M = some out → Lst0 out.2 := by
  intro n
  induction n with
  | zero =>
    intro a0 a1 a2 a3 M hB h
    have h : (none : Option (Int32 × Mm)) = some out := h
    cases h
  | succ n ih =>
    intro a0 a1 a2 a3 M hB h
    rw [fX8_find_L2] at h
    obtain ⟨v1, ev1, h⟩ := bd h
    by_cases hc : v1 ≤ a3
    · have h := (if_pos hc).symm.trans h
      obtain rfl := Option.some.inj h
      exact hB
    · have h := (if_neg hc).symm.trans h
      exact eX8_find_L13 fu (fun b0 b1 b2 b3 M => fX8_find_L2 fu  n b0 b1 b2 b3 M) ih fu a0 a1 a2 a3 (0 : Int32) M hB h
theorem eX8_find (fu : Nat) {out : Int32 × Mm}   (a0 : Nat) (a1 : Option Nat) (a2 : Int32)  (M : Mm) (hB : Lst0 M) (h : fX8_find fu  a0 a1 a2 M = some out) : Lst0 out.2 := by
  unfold fX8_find at h
  exact eX8_find_L2 fu   fu a0 a1 a2 (0 : Int32) M hB h
theorem eX8_placeOf (fu : Nat) {out : Int32 × Mm}   (a0 : Nat) (a1 : Int32)  (M : Mm) (hB : Lst0 M) (h : fX8_placeOf fu  a0 a1 M = some out) : Lst0 out.2 := by
  unfold fX8_placeOf at h
  obtain ⟨v1, ev1, h⟩ := bd h
  obtain ⟨v3, M2, eM2, h⟩ := b2d h
  have hB := eX11_four fu  v1 ((a1 * (64 : Int32)) + (48 : Int32)) M hB eM2
  obtain rfl := Option.some.inj h
  exact hB
theorem eX8_sizeOf (fu : Nat) {out : Int32 × Mm}   (a0 : Nat) (a1 : Int32)  (M : Mm) (hB : Lst0 M) (h : fX8_sizeOf fu  a0 a1 M = some out) : Lst0 out.2 := by
  unfold fX8_sizeOf at h
  obtain ⟨v1, ev1, h⟩ := bd h
  obtain ⟨v3, M2, eM2, h⟩ := b2d h
  have hB := eX11_four fu  v1 (((a1 * (64 : Int32)) + (48 : Int32)) + (4 : Int32)) M hB eM2
  obtain rfl := Option.some.inj h
  exact hB
theorem eX8_checkOf_L22 (fu : Nat) {out : Int32 × Mm}   : ∀ (n : Nat) (a0 : Nat) (a3 : Int32) (a4 : Int32) (a5 : Int32)  (M : Mm), Lst0 M → fX8_checkOf_L22 fu  n a0 a3 a4 a5 M = some out → Lst0 out.2 := by
  intro n
  induction n with
  | zero =>
    intro a0 a3 a4 a5 M hB h
    have h : (none : Option (Int32 × Mm)) = some out := h
    cases h
  | succ n ih =>
    intro a0 a3 a4 a5 M hB h
    rw [fX8_checkOf_L22] at h
    by_cases hc : a4 ≤ a5
    · have h := (if_pos hc).symm.trans h
      obtain rfl := Option.some.inj h
      exact hB
    · have h := (if_neg hc).symm.trans h
      obtain ⟨v1, ev1, h⟩ := bd h
      obtain ⟨v2, ev2, h⟩ := bd h
      obtain ⟨v3, ev3, h⟩ := bd h
      obtain ⟨v4, ev4, h⟩ := bd h
      obtain ⟨v5, ev5, h⟩ := bd h
      exact ih a0 ((ushr v4 (4 : Int32)) ^^^ v5) a4 (a5 + (1 : Int32)) M hB h
theorem eX8_checkOf (fu : Nat) {out : Int32 × Mm}   (a0 : Nat) (a1 : Int32) (a2 : Int32)  (M : Mm) (hB : Lst0 M) (h : fX8_checkOf fu  a0 a1 a2 M = some out) : Lst0 out.2 := by
  unfold fX8_checkOf at h
  obtain ⟨v1, ev1, h⟩ := bd h
  obtain ⟨v2, ev2, h⟩ := bd h
  exact eX8_checkOf_L22 fu   fu a0 (-1 : Int32) (jmin (a1 + a2) v2) (jmax a1 (0 : Int32)) M hB h
theorem eX8_markOf (fu : Nat) {out : Int32 × Mm}   (a0 : Nat) (a1 : Int32)  (M : Mm) (hB : Lst0 M) (h : fX8_markOf fu  a0 a1 M = some out) : Lst0 out.2 := by
  unfold fX8_markOf at h
  obtain ⟨v1, ev1, h⟩ := bd h
  obtain ⟨v3, M2, eM2, h⟩ := b2d h
  have hB := eX11_four fu  v1 (((a1 * (64 : Int32)) + (48 : Int32)) + (8 : Int32)) M hB eM2
  obtain rfl := Option.some.inj h
  exact hB
theorem eX8_isWhole (fu : Nat) {out : Int32 × Mm}   (a0 : Nat) (a1 : Int32)  (M : Mm) (hB : Lst0 M) (h : fX8_isWhole fu  a0 a1 M = some out) : Lst0 out.2 := by
  unfold fX8_isWhole at h
  obtain ⟨q1, eq1, h⟩ := bd h
  obtain ⟨v3, M2, eM2, h⟩ := b2d h
  have hB := eX8_placeOf fu q1 a1 M hB eM2
  obtain ⟨q4, eq4, h⟩ := bd h
  obtain ⟨v6, M5, eM5, h⟩ := b2d h
  have hB := eX8_sizeOf fu q4 a1 M2 hB eM5
  obtain ⟨q7, eq7, h⟩ := bd h
  obtain ⟨v9, M8, eM8, h⟩ := b2d h
  have hB := eX8_checkOf fu q7 v3 v6 M5 hB eM8
  obtain ⟨q10, eq10, h⟩ := bd h
  obtain ⟨v12, M11, eM11, h⟩ := b2d h
  have hB := eX8_markOf fu q10 a1 M8 hB eM11
  by_cases hc : v9 = v12
  · have h := (if_pos hc).symm.trans h
    obtain ⟨hz, rfl⟩ := rN_some h
    exact hB
  · have h := (if_neg hc).symm.trans h
    obtain ⟨hz, rfl⟩ := rN_some h
    exact hB
theorem eX7_isMark_L83 (fu : Nat) {out : Int32 × Mm}   : ∀ (n : Nat) (a0 : Nat) (a1 : Int32) (a2 : Int32)  (M : Mm), Lst0 M → fX7_isMark_L83 fu  n a0 a1 a2 M = some out → Lst0 out.2 := by
  intro n
  induction n with
  | zero =>
    intro a0 a1 a2 M hB h
    have h : (none : Option (Int32 × Mm)) = some out := h
    cases h
  | succ n ih =>
    intro a0 a1 a2 M hB h
    rw [fX7_isMark_L83] at h
    by_cases hc : (8 : Int32) ≤ a2
    · have h := (if_pos hc).symm.trans h
      obtain ⟨hz, rfl⟩ := rN_some h
      exact hB
    · have h := (if_neg hc).symm.trans h
      obtain ⟨v1, ev1, h⟩ := bd h
      obtain ⟨v2, ev2, h⟩ := bd h
      obtain ⟨v4, M3, eM3, h⟩ := b2d h
      have hB := eX11_one fu  v1 ((v2 + (1 : Int32)) + a2) M hB eM3
      obtain ⟨v6, M5, eM5, h⟩ := b2d h
      have hB := eX11_hexCode fu  (ushr a1 ((28 : Int32) - ((4 : Int32) * a2))) M3 hB eM5
      by_cases hc : v4 = v6
      · have h := (if_pos hc).symm.trans h
        exact ih a0 a1 (a2 + (1 : Int32)) M5 hB h
      · have h := (if_neg hc).symm.trans h
        obtain ⟨hz, rfl⟩ := rN_some h
        exact hB
theorem eX7_isMark (fu : Nat) {out : Int32 × Mm}   (a0 : Nat)  (M : Mm) (hB : Lst0 M) (h : fX7_isMark fu  a0 M = some out) : Lst0 out.2 := by
  unfold fX7_isMark at h
  obtain ⟨v1, ev1, h⟩ := bd h
  obtain ⟨v2, ev2, h⟩ := bd h
  obtain ⟨q3, eq3, h⟩ := bd h
  obtain ⟨v5, M4, eM4, h⟩ := b2d h
  have hB := eX7_isText fu q3 v1 v2 (some 13) M hB eM4
  by_cases hc : v5 = 0
  · have h := (if_pos hc).symm.trans h
    obtain ⟨v6, ev6, h⟩ := bd h
    obtain ⟨v7, ev7, h⟩ := bd h
    by_cases hc : (v6 - v7) = (10 : Int32)
    · have h := (if_pos hc).symm.trans h
      obtain ⟨v8, ev8, h⟩ := bd h
      obtain ⟨v9, ev9, h⟩ := bd h
      obtain ⟨v11, M10, eM10, h⟩ := b2d h
      have hB := eX11_one fu  v8 v9 M4 hB eM10
      by_cases hc : v11 = (34 : Int32)
      · have h := (if_pos hc).symm.trans h
        obtain ⟨v12, ev12, h⟩ := bd h
        obtain ⟨v13, ev13, h⟩ := bd h
        obtain ⟨v15, M14, eM14, h⟩ := b2d h
        have hB := eX11_one fu  v12 (v13 - (1 : Int32)) M10 hB eM14
        by_cases hc : v15 = (34 : Int32)
        · have h := (if_pos hc).symm.trans h
          obtain ⟨v16, ev16, h⟩ := bd h
          obtain ⟨v17, ev17, h⟩ := bd h
          obtain ⟨q18, eq18, h⟩ := bd h
          obtain ⟨v20, M19, eM19, h⟩ := b2d h
          have hB := eX8_markOf fu q18 v17 M14 hB eM19
          exact eX7_isMark_L83 fu   fu a0 v20 (0 : Int32) M19 hB h
        · have h := (if_neg hc).symm.trans h
          obtain ⟨hz, rfl⟩ := rN_some h
          exact hB
      · have h := (if_neg hc).symm.trans h
        obtain ⟨hz, rfl⟩ := rN_some h
        exact hB
    · have h := (if_neg hc).symm.trans h
      obtain ⟨hz, rfl⟩ := rN_some h
      exact hB
  · have h := (if_neg hc).symm.trans h
    obtain ⟨hz, rfl⟩ := rN_some h
    exact hB
theorem eX7_verdict_L125 (fu : Nat) {out : Int32 × Mm}   (a0 : Nat) (s0 : Option Nat) (s1 : Int32) (M : Mm) (hB : Lst0 M) (h : fX7_verdict_L125 fu  a0 s0 s1 M = some out) : Lst0 out.2 := by
  unfold fX7_verdict_L125 at h
  obtain ⟨M1, eM1, h⟩ := bd h
  have hB := e_pF hB eM1
  obtain ⟨v2, ev2, h⟩ := bd h
  by_cases hc : 0 ≤ v2
  · have h := (if_pos hc).symm.trans h
    obtain ⟨v3, ev3, h⟩ := bd h
    obtain ⟨v4, ev4, h⟩ := bd h
    obtain ⟨q5, eq5, h⟩ := bd h
    obtain ⟨v7, M6, eM6, h⟩ := b2d h
    have hB := eX8_isWhole fu q5 v4 M1 hB eM6
    by_cases hc : v7 = 0
    · have h := (if_pos hc).symm.trans h
      obtain rfl := Option.some.inj h
      exact hB
    · have h := (if_neg hc).symm.trans h
      obtain ⟨v8, ev8, h⟩ := bd h
      by_cases hc : v8 = (1 : Int32)
      · have h := (if_pos hc).symm.trans h
        obtain ⟨q9, eq9, h⟩ := bd h
        obtain ⟨v11, M10, eM10, h⟩ := b2d h
        have hB := eX7_isMark fu q9  M6 hB eM10
        by_cases hc : v11 = 0
        · have h := (if_pos hc).symm.trans h
          obtain rfl := Option.some.inj h
          exact hB
        · have h := (if_neg hc).symm.trans h
          obtain rfl := Option.some.inj h
          exact hB
      · have h := (if_neg hc).symm.trans h
        obtain rfl := Option.some.inj h
        exact hB
  · have h := (if_neg hc).symm.trans h
    obtain rfl := Option.some.inj h
    exact hB
theorem eX7_verdict_L30 (fu : Nat) {out : Int32 × Mm}   (a0 : Nat)  (M : Mm) (hB : Lst0 M) (h : fX7_verdict_L30 fu  a0 M = some out) : Lst0 out.2 := by
  unfold fX7_verdict_L30 at h
  obtain ⟨v1, ev1, h⟩ := bd h
  by_cases hc : v1 ≤ 0
  · have h := (if_pos hc).symm.trans h
    obtain ⟨v2, ev2, h⟩ := bd h
    by_cases hc : (1 : Int32) < v2
    · have h := (if_pos hc).symm.trans h
      obtain rfl := Option.some.inj h
      exact hB
    · have h := (if_neg hc).symm.trans h
      obtain ⟨v3, ev3, h⟩ := bd h
      by_cases hc : 0 ≤ v3
      · have h := (if_pos hc).symm.trans h
        obtain ⟨v4, ev4, h⟩ := bd h
        by_cases hc : v4 ≤ (65536 : Int32)
        · have h := (if_pos hc).symm.trans h
          obtain ⟨v5, ev5, h⟩ := bd h
          by_cases hc : v5 = (2 : Int32)
          · have h := (if_pos hc).symm.trans h
            obtain rfl := Option.some.inj h
            exact hB
          · have h := (if_neg hc).symm.trans h
            obtain ⟨q6, eq6, h⟩ := bd h
            obtain ⟨v8, M7, eM7, h⟩ := b2d h
            have hB := eX7_readPath fu q6  M hB eM7
            by_cases hc : v8 = 0
            · have h := (if_pos hc).symm.trans h
              obtain rfl := Option.some.inj h
              exact hB
            · have h := (if_neg hc).symm.trans h
              obtain ⟨v9, ev9, h⟩ := bd h
              by_cases hc : v9 ≤ (47 : Int32)
              · have h := (if_pos hc).symm.trans h
                obtain ⟨v10, ev10, h⟩ := bd h
                obtain ⟨v11, ev11, h⟩ := bd h
                obtain ⟨v12, ev12, h⟩ := bd h
                obtain ⟨q13, eq13, h⟩ := bd h
                obtain ⟨v15, M14, eM14, h⟩ := b2d h
                have hB := eX8_find fu q13 v11 v12 M7 hB eM14
                exact eX7_verdict_L125 fu    a0 (some a0) v15 M14 hB h
              · have h := (if_neg hc).symm.trans h
                exact eX7_verdict_L125 fu    a0 (some a0) (-1 : Int32) M7 hB h
        · have h := (if_neg hc).symm.trans h
          obtain rfl := Option.some.inj h
          exact hB
      · have h := (if_neg hc).symm.trans h
        obtain rfl := Option.some.inj h
        exact hB
  · have h := (if_neg hc).symm.trans h
    obtain rfl := Option.some.inj h
    exact hB
theorem eX7_verdict (fu : Nat) {out : Int32 × Mm}   (a0 : Nat)  (M : Mm) (hB : Lst0 M) (h : fX7_verdict fu  a0 M = some out) : Lst0 out.2 := by
  unfold fX7_verdict at h
  obtain ⟨v1, ev1, h⟩ := bd h
  by_cases hc : v1 = 0
  · have h := (if_pos hc).symm.trans h
    obtain ⟨v2, ev2, h⟩ := bd h
    by_cases hc : v2 = (1 : Int32)
    · have h := (if_pos hc).symm.trans h
      exact eX7_verdict_L30 fu    a0 M hB h
    · have h := (if_neg hc).symm.trans h
      obtain rfl := Option.some.inj h
      exact hB
  · have h := (if_neg hc).symm.trans h
    obtain ⟨v3, ev3, h⟩ := bd h
    by_cases hc : v3 ≤ (1 : Int32)
    · have h := (if_pos hc).symm.trans h
      exact eX7_verdict_L30 fu    a0 M hB h
    · have h := (if_neg hc).symm.trans h
      obtain rfl := Option.some.inj h
      exact hB
theorem eX7_readHead_L90 (fu : Nat) {out : Int32 × Mm}   (a0 : Nat)  (M : Mm) (hB : Lst0 M) (h : fX7_readHead_L90 fu  a0 M = some out) : Lst0 out.2 := by
  unfold fX7_readHead_L90 at h
  obtain ⟨q1, eq1, h⟩ := bd h
  obtain ⟨v3, M2, eM2, h⟩ := b2d h
  have hB := eX7_verdict fu q1  M hB eM2
  obtain rfl := Option.some.inj h
  exact hB
theorem eX7_readHead_L84 (fu : Nat) {out : Int32 × Mm} (k8 : Nat → Int32 → Int32 → Int32 → Mm → Option (Int32 × Mm)) (hk8 : ∀ (b0 : Nat) (b1 : Int32) (b2 : Int32) (b3 : Int32)  (M : Mm), Lst0 M → k8 b0 b1 b2 b3 M = some out → Lst0 out.2) (a0 : Nat) (a1 : Int32) (a2 : Int32) (a3 : Int32)  (M : Mm) (hB : Lst0 M) (h : fX7_readHead_L84 fu k8 a0 a1 a2 a3 M = some out) : Lst0 out.2 := by
  unfold fX7_readHead_L84 at h
  exact hk8 a0 a1 a2 (a3 + (1 : Int32)) M hB h
theorem eX7_readHead_L80 (fu : Nat) {out : Int32 × Mm} (k8 : Nat → Int32 → Int32 → Int32 → Mm → Option (Int32 × Mm)) (hk8 : ∀ (b0 : Nat) (b1 : Int32) (b2 : Int32) (b3 : Int32)  (M : Mm), Lst0 M → k8 b0 b1 b2 b3 M = some out → Lst0 out.2) (a0 : Nat) (a1 : Int32) (a3 : Int32)  (M : Mm) (hB : Lst0 M) (h : fX7_readHead_L80 fu k8 a0 a1 a3 M = some out) : Lst0 out.2 := by
  unfold fX7_readHead_L80 at h
  exact eX7_readHead_L84 fu k8 hk8  a0 a1 (a3 + (1 : Int32)) a3 M hB h
theorem eX7_readHead_L8 (fu : Nat) {out : Int32 × Mm}   : ∀ (n : Nat) (a0 : Nat) (a1 : Int32) (a2 : Int32) (a3 : Int32)  (M : Mm), Lst0 M → fX7_readHead_L8 fu  n a0 a1 a2 a3 M = some out → Lst0 out.2 := by
  intro n
  induction n with
  | zero =>
    intro a0 a1 a2 a3 M hB h
    have h : (none : Option (Int32 × Mm)) = some out := h
    cases h
  | succ n ih =>
    intro a0 a1 a2 a3 M hB h
    rw [fX7_readHead_L8] at h
    by_cases hc : a1 ≤ a3
    · have h := (if_pos hc).symm.trans h
      exact eX7_readHead_L90 fu    a0 M hB h
    · have h := (if_neg hc).symm.trans h
      obtain ⟨v1, ev1, h⟩ := bd h
      obtain ⟨v2, ev2, h⟩ := bd h
      by_cases hc : v2 ≤ a3
      · have h := (if_pos hc).symm.trans h
        exact eX7_readHead_L90 fu    a0 M hB h
      · have h := (if_neg hc).symm.trans h
        obtain ⟨v3, ev3, h⟩ := bd h
        obtain ⟨v4, ev4, h⟩ := bd h
        by_cases hc : v4 = (10 : Int32)
        · have h := (if_pos hc).symm.trans h
          obtain ⟨q5, eq5, h⟩ := bd h
          obtain ⟨v7, M6, eM6, h⟩ := b2d h
          have hB := eX7_lineEnd fu q5 a2 a3 M hB eM6
          by_cases hc : v7 ≤ a2
          · have h := (if_pos hc).symm.trans h
            exact eX7_readHead_L80 fu (fun b0 b1 b2 b3 M => fX7_readHead_L8 fu  n b0 b1 b2 b3 M) ih  a0 a1 a3 M6 hB h
          · have h := (if_neg hc).symm.trans h
            by_cases hc : a2 = 0
            · have h := (if_pos hc).symm.trans h
              obtain ⟨q11, eq11, h⟩ := bd h
              obtain ⟨v13, M12, eM12, h⟩ := b2d h
              have hB := eX7_readRequestLine fu q11 v7 M6 hB eM12
              by_cases hc : v13 = 0
              · have h := (if_pos hc).symm.trans h
                obtain rfl := Option.some.inj h
                exact hB
              · have h := (if_neg hc).symm.trans h
                exact eX7_readHead_L80 fu (fun b0 b1 b2 b3 M => fX7_readHead_L8 fu  n b0 b1 b2 b3 M) ih  a0 a1 a3 M12 hB h
            · have h := (if_neg hc).symm.trans h
              obtain ⟨q8, eq8, h⟩ := bd h
              obtain ⟨v10, M9, eM9, h⟩ := b2d h
              have hB := eX7_readField fu q8 a2 v7 M6 hB eM9
              by_cases hc : v10 = 0
              · have h := (if_pos hc).symm.trans h
                obtain rfl := Option.some.inj h
                exact hB
              · have h := (if_neg hc).symm.trans h
                exact eX7_readHead_L80 fu (fun b0 b1 b2 b3 M => fX7_readHead_L8 fu  n b0 b1 b2 b3 M) ih  a0 a1 a3 M9 hB h
        · have h := (if_neg hc).symm.trans h
          exact eX7_readHead_L84 fu (fun b0 b1 b2 b3 M => fX7_readHead_L8 fu  n b0 b1 b2 b3 M) ih  a0 a1 a2 a3 M hB h
theorem eX7_readHead (fu : Nat) {out : Int32 × Mm}   (a0 : Nat) (a1 : Int32)  (M : Mm) (hB : Lst0 M) (h : fX7_readHead fu  a0 a1 M = some out) : Lst0 out.2 := by
  unfold fX7_readHead at h
  obtain ⟨q1, eq1, h⟩ := bd h
  obtain ⟨M2, eM2, h⟩ := bd h
  have hB := eX7_forget fu q1  M hB eM2
  exact eX7_readHead_L8 fu   fu a0 a1 (0 : Int32) (0 : Int32) M2 hB h
theorem eX7_isPersistent (fu : Nat) {out : Int32 × Mm}   (a0 : Nat)  (M : Mm) (hB : Lst0 M) (h : fX7_isPersistent fu  a0 M = some out) : Lst0 out.2 := by
  unfold fX7_isPersistent at h
  obtain ⟨v1, ev1, h⟩ := bd h
  by_cases hc : v1 = 0
  · have h := (if_pos hc).symm.trans h
    obtain ⟨v2, ev2, h⟩ := bd h
    by_cases hc : v2 = 0
    · have h := (if_pos hc).symm.trans h
      obtain ⟨v3, ev3, h⟩ := bd h
      by_cases hc : v3 = 0
      · have h := (if_pos hc).symm.trans h
        obtain ⟨hz, rfl⟩ := rN_some h
        exact hB
      · have h := (if_neg hc).symm.trans h
        obtain ⟨hz, rfl⟩ := rN_some h
        exact hB
    · have h := (if_neg hc).symm.trans h
      obtain ⟨hz, rfl⟩ := rN_some h
      exact hB
  · have h := (if_neg hc).symm.trans h
    obtain ⟨hz, rfl⟩ := rN_some h
    exact hB
theorem eX7_isBodyLeftOut (fu : Nat) {out : Int32 × Mm}   (a0 : Int32)  (M : Mm) (hB : Lst0 M) (h : fX7_isBodyLeftOut fu  a0 M = some out) : Lst0 out.2 := by
  unfold fX7_isBodyLeftOut at h
  by_cases hc : a0 = (400 : Int32)
  · have h := (if_pos hc).symm.trans h
    obtain ⟨hz, rfl⟩ := rN_some h
    exact hB
  · have h := (if_neg hc).symm.trans h
    by_cases hc : a0 = (413 : Int32)
    · have h := (if_pos hc).symm.trans h
      obtain ⟨hz, rfl⟩ := rN_some h
      exact hB
    · have h := (if_neg hc).symm.trans h
      by_cases hc : a0 = (431 : Int32)
      · have h := (if_pos hc).symm.trans h
        obtain ⟨hz, rfl⟩ := rN_some h
        exact hB
      · have h := (if_neg hc).symm.trans h
        by_cases hc : a0 = (501 : Int32)
        · have h := (if_pos hc).symm.trans h
          obtain ⟨hz, rfl⟩ := rN_some h
          exact hB
        · have h := (if_neg hc).symm.trans h
          obtain ⟨hz, rfl⟩ := rN_some h
          exact hB
theorem eX7_phrase (fu : Nat) {out : Option Nat × Mm}   (a0 : Int32)  (M : Mm) (hB : Lst0 M) (h : fX7_phrase fu  a0 M = some out) : Lst0 out.2 := by
  unfold fX7_phrase at h
  by_cases hc0 : a0 = (200 : Int32)
  · have h := (if_pos hc0).symm.trans h
    obtain rfl := Option.some.inj h
    exact hB
  have h := (if_neg hc0).symm.trans h
  by_cases hc1 : a0 = (304 : Int32)
  · have h := (if_pos hc1).symm.trans h
    obtain rfl := Option.some.inj h
    exact hB
  have h := (if_neg hc1).symm.trans h
  by_cases hc2 : a0 = (400 : Int32)
  · have h := (if_pos hc2).symm.trans h
    obtain rfl := Option.some.inj h
    exact hB
  have h := (if_neg hc2).symm.trans h
  by_cases hc3 : a0 = (404 : Int32)
  · have h := (if_pos hc3).symm.trans h
    obtain rfl := Option.some.inj h
    exact hB
  have h := (if_neg hc3).symm.trans h
  by_cases hc4 : a0 = (405 : Int32)
  · have h := (if_pos hc4).symm.trans h
    obtain rfl := Option.some.inj h
    exact hB
  have h := (if_neg hc4).symm.trans h
  by_cases hc5 : a0 = (413 : Int32)
  · have h := (if_pos hc5).symm.trans h
    obtain rfl := Option.some.inj h
    exact hB
  have h := (if_neg hc5).symm.trans h
  by_cases hc6 : a0 = (431 : Int32)
  · have h := (if_pos hc6).symm.trans h
    obtain rfl := Option.some.inj h
    exact hB
  have h := (if_neg hc6).symm.trans h
  by_cases hc7 : a0 = (500 : Int32)
  · have h := (if_pos hc7).symm.trans h
    obtain rfl := Option.some.inj h
    exact hB
  have h := (if_neg hc7).symm.trans h
  obtain rfl := Option.some.inj h
  exact hB
theorem eX7_pathEndsWith_L18 (fu : Nat) {out : Int32 × Mm}   : ∀ (n : Nat) (a0 : Nat) (a1 : Option Nat) (a2 : Int32) (a3 : Int32)  (M : Mm), Lst0 M → fX7_pathEndsWith_L18 fu  n a0 a1 a2 a3 M = some out → Lst0 out.2 := by
  intro n
  induction n with
  | zero =>
    intro a0 a1 a2 a3 M hB h
    have h : (none : Option (Int32 × Mm)) = some out := h
    cases h
  | succ n ih =>
    intro a0 a1 a2 a3 M hB h
    rw [fX7_pathEndsWith_L18] at h
    obtain ⟨q1, eq1, h⟩ := bd h
    obtain ⟨v3, M2, eM2, h⟩ := b2d h
    have hB := eJ0_length_8abf5 fu q1  M hB eM2
    by_cases hc : v3 ≤ a3
    · have h := (if_pos hc).symm.trans h
      obtain ⟨hz, rfl⟩ := rN_some h
      exact hB
    · have h := (if_neg hc).symm.trans h
      obtain ⟨v4, ev4, h⟩ := bd h
      obtain ⟨v6, M5, eM5, h⟩ := b2d h
      have hB := eX11_one fu  v4 (a2 + a3) M2 hB eM5
      obtain ⟨q7, eq7, h⟩ := bd h
      obtain ⟨v9, M8, eM8, h⟩ := b2d h
      have hB := eJ0_charAt_5068e fu q7 a3 M5 hB eM8
      by_cases hc : v6 = v9
      · have h := (if_pos hc).symm.trans h
        exact ih a0 a1 a2 (a3 + (1 : Int32)) M8 hB h
      · have h := (if_neg hc).symm.trans h
        obtain ⟨hz, rfl⟩ := rN_some h
        exact hB
theorem eX7_pathEndsWith (fu : Nat) {out : Int32 × Mm}   (a0 : Nat) (a1 : Option Nat)  (M : Mm) (hB : Lst0 M) (h : fX7_pathEndsWith fu  a0 a1 M = some out) : Lst0 out.2 := by
  unfold fX7_pathEndsWith at h
  obtain ⟨v1, ev1, h⟩ := bd h
  obtain ⟨q2, eq2, h⟩ := bd h
  obtain ⟨v4, M3, eM3, h⟩ := b2d h
  have hB := eJ0_length_8abf5 fu q2  M hB eM3
  by_cases hc : 0 ≤ (v1 - v4)
  · have h := (if_pos hc).symm.trans h
    exact eX7_pathEndsWith_L18 fu   fu a0 a1 (v1 - v4) (0 : Int32) M3 hB h
  · have h := (if_neg hc).symm.trans h
    obtain ⟨hz, rfl⟩ := rN_some h
    exact hB
theorem eX7_contentType (fu : Nat) {out : Option Nat × Mm}   (a0 : Nat)  (M : Mm) (hB : Lst0 M) (h : fX7_contentType fu  a0 M = some out) : Lst0 out.2 := by
  unfold fX7_contentType at h
  obtain ⟨q1, eq1, h⟩ := bd h
  obtain ⟨v3, M2, eM2, h⟩ := b2d h
  have hB := eX7_pathEndsWith fu q1 (some 27) M hB eM2
  by_cases hc : v3 = 0
  · have h := (if_pos hc).symm.trans h
    obtain ⟨q4, eq4, h⟩ := bd h
    obtain ⟨v6, M5, eM5, h⟩ := b2d h
    have hB := eX7_pathEndsWith fu q4 (some 29) M2 hB eM5
    by_cases hc : v6 = 0
    · have h := (if_pos hc).symm.trans h
      obtain ⟨q7, eq7, h⟩ := bd h
      obtain ⟨v9, M8, eM8, h⟩ := b2d h
      have hB := eX7_pathEndsWith fu q7 (some 31) M5 hB eM8
      by_cases hc : v9 = 0
      · have h := (if_pos hc).symm.trans h
        obtain ⟨q10, eq10, h⟩ := bd h
        obtain ⟨v12, M11, eM11, h⟩ := b2d h
        have hB := eX7_pathEndsWith fu q10 (some 33) M8 hB eM11
        by_cases hc : v12 = 0
        · have h := (if_pos hc).symm.trans h
          obtain ⟨q13, eq13, h⟩ := bd h
          obtain ⟨v15, M14, eM14, h⟩ := b2d h
          have hB := eX7_pathEndsWith fu q13 (some 35) M11 hB eM14
          by_cases hc : v15 = 0
          · have h := (if_pos hc).symm.trans h
            obtain rfl := Option.some.inj h
            exact hB
          · have h := (if_neg hc).symm.trans h
            obtain rfl := Option.some.inj h
            exact hB
        · have h := (if_neg hc).symm.trans h
          obtain rfl := Option.some.inj h
          exact hB
      · have h := (if_neg hc).symm.trans h
        obtain rfl := Option.some.inj h
        exact hB
    · have h := (if_neg hc).symm.trans h
      obtain rfl := Option.some.inj h
      exact hB
  · have h := (if_neg hc).symm.trans h
    obtain rfl := Option.some.inj h
    exact hB
theorem eX7_giveBody (fu : Nat) {out : Mm}   (a0 : Nat) (a1 : Option Nat) (a2 : Int32) (a3 : Int32)  (M : Mm) (hB : Lst0 M) (h : fX7_giveBody fu  a0 a1 a2 a3 M = some out) : Lst0 out := by
  unfold fX7_giveBody at h
  by_cases hc : a2 = (200 : Int32)
  · have h := (if_pos hc).symm.trans h
    obtain ⟨v11, ev11, h⟩ := bd h
    obtain ⟨v12, ev12, h⟩ := bd h
    obtain ⟨q13, eq13, h⟩ := bd h
    obtain ⟨v15, M14, eM14, h⟩ := b2d h
    have hB := eX8_placeOf fu q13 v12 M hB eM14
    obtain ⟨M16, eM16, h⟩ := bd h
    have hB := e_pF hB eM16
    obtain ⟨M17, eM17, h⟩ := bd h
    have hB := e_pF hB eM17
    obtain rfl := Option.some.inj h
    exact hB
  · have h := (if_neg hc).symm.trans h
    obtain ⟨q1, eq1, h⟩ := bd h
    obtain ⟨M2, eM2, h⟩ := bd h
    have hB := eX1_writeNumber fu q1 a2 M hB eM2
    obtain ⟨q3, eq3, h⟩ := bd h
    obtain ⟨M4, eM4, h⟩ := bd h
    have hB := eX1_write fu q3 (some 24) M2 hB eM4
    obtain ⟨v6, M5, eM5, h⟩ := b2d h
    have hB := eX7_phrase fu  a2 M4 hB eM5
    obtain ⟨q7, eq7, h⟩ := bd h
    obtain ⟨M8, eM8, h⟩ := bd h
    have hB := eX1_write fu q7 v6 M5 hB eM8
    obtain ⟨q9, eq9, h⟩ := bd h
    obtain ⟨M10, eM10, h⟩ := bd h
    have hB := eX1_write fu q9 (some 42) M8 hB eM10
    obtain rfl := Option.some.inj h
    exact hB
theorem eX7_give_L229 (fu : Nat) {out : Mm}   (a0 : Nat) (a1 : Option Nat) (a2 : Int32) (a5 : Int32)  (M : Mm) (hB : Lst0 M) (h : fX7_give_L229 fu  a0 a1 a2 a5 M = some out) : Lst0 out := by
  unfold fX7_give_L229 at h
  obtain ⟨q1, eq1, h⟩ := bd h
  obtain ⟨M2, eM2, h⟩ := bd h
  have hB := eX1_write fu q1 (some 41) M hB eM2
  by_cases hc : a2 = (304 : Int32)
  · have h := (if_pos hc).symm.trans h
    obtain rfl := Option.some.inj h
    exact hB
  · have h := (if_neg hc).symm.trans h
    obtain ⟨v3, ev3, h⟩ := bd h
    by_cases hc : v3 = (1 : Int32)
    · have h := (if_pos hc).symm.trans h
      obtain rfl := Option.some.inj h
      exact hB
    · have h := (if_neg hc).symm.trans h
      obtain ⟨q4, eq4, h⟩ := bd h
      obtain ⟨M5, eM5, h⟩ := bd h
      have hB := eX7_giveBody fu q4 a1 a2 a5 M2 hB eM5
      obtain rfl := Option.some.inj h
      exact hB
theorem eX7_give_L215 (fu : Nat) {out : Mm}   (a0 : Nat) (a1 : Option Nat) (a2 : Int32) (a5 : Int32)  (M : Mm) (hB : Lst0 M) (h : fX7_give_L215 fu  a0 a1 a2 a5 M = some out) : Lst0 out := by
  unfold fX7_give_L215 at h
  obtain ⟨v1, ev1, h⟩ := bd h
  by_cases hc : v1 = 0
  · have h := (if_pos hc).symm.trans h
    exact eX7_give_L229 fu    a0 a1 a2 a5 M hB h
  · have h := (if_neg hc).symm.trans h
    obtain ⟨q2, eq2, h⟩ := bd h
    obtain ⟨M3, eM3, h⟩ := bd h
    have hB := eX1_write fu q2 (some 40) M hB eM3
    exact eX7_give_L229 fu    a0 a1 a2 a5 M3 hB h
theorem eX7_give_L201 (fu : Nat) {out : Mm}   (a0 : Nat) (a1 : Option Nat) (a2 : Int32) (a5 : Int32)  (M : Mm) (hB : Lst0 M) (h : fX7_give_L201 fu  a0 a1 a2 a5 M = some out) : Lst0 out := by
  unfold fX7_give_L201 at h
  by_cases hc : a2 = (405 : Int32)
  · have h := (if_pos hc).symm.trans h
    obtain ⟨q1, eq1, h⟩ := bd h
    obtain ⟨M2, eM2, h⟩ := bd h
    have hB := eX1_write fu q1 (some 39) M hB eM2
    exact eX7_give_L215 fu    a0 a1 a2 a5 M2 hB h
  · have h := (if_neg hc).symm.trans h
    exact eX7_give_L215 fu    a0 a1 a2 a5 M hB h
theorem eX7_give_L179 (fu : Nat) {out : Mm}   (a0 : Nat) (a1 : Option Nat) (a2 : Int32) (a5 : Int32)  (M : Mm) (hB : Lst0 M) (h : fX7_give_L179 fu  a0 a1 a2 a5 M = some out) : Lst0 out := by
  unfold fX7_give_L179 at h
  obtain ⟨q1, eq1, h⟩ := bd h
  obtain ⟨M2, eM2, h⟩ := bd h
  have hB := eX1_write fu q1 (some 38) M hB eM2
  obtain ⟨v3, ev3, h⟩ := bd h
  obtain ⟨v4, ev4, h⟩ := bd h
  obtain ⟨q5, eq5, h⟩ := bd h
  obtain ⟨v7, M6, eM6, h⟩ := b2d h
  have hB := eX8_markOf fu q5 v4 M2 hB eM6
  obtain ⟨q8, eq8, h⟩ := bd h
  obtain ⟨M9, eM9, h⟩ := bd h
  have hB := eX1_writeMark fu q8 v7 M6 hB eM9
  exact eX7_give_L201 fu    a0 a1 a2 a5 M9 hB h
theorem eX7_give_L167 (fu : Nat) {out : Mm}   (a0 : Nat) (a1 : Option Nat) (a2 : Int32) (a4 : Int32) (a5 : Int32)  (M : Mm) (hB : Lst0 M) (h : fX7_give_L167 fu  a0 a1 a2 a4 a5 M = some out) : Lst0 out := by
  unfold fX7_give_L167 at h
  by_cases hc : a4 = 0
  · have h := (if_pos hc).symm.trans h
    by_cases hc : a2 = (304 : Int32)
    · have h := (if_pos hc).symm.trans h
      exact eX7_give_L179 fu    a0 a1 a2 a5 M hB h
    · have h := (if_neg hc).symm.trans h
      exact eX7_give_L201 fu    a0 a1 a2 a5 M hB h
  · have h := (if_neg hc).symm.trans h
    exact eX7_give_L179 fu    a0 a1 a2 a5 M hB h
theorem eX7_give_L164 (fu : Nat) {out : Mm}   (a0 : Nat) (a1 : Option Nat) (a2 : Int32) (a4 : Int32) (a5 : Int32) (s0 : Option Nat) (s1 : Option Nat) (M : Mm) (hB : Lst0 M) (h : fX7_give_L164 fu  a0 a1 a2 a4 a5 s0 s1 M = some out) : Lst0 out := by
  unfold fX7_give_L164 at h
  obtain ⟨q1, eq1, h⟩ := bd h
  obtain ⟨M2, eM2, h⟩ := bd h
  have hB := eX1_write fu q1 s1 M hB eM2
  exact eX7_give_L167 fu    a0 a1 a2 a4 a5 M2 hB h
theorem eX7_give_L95 (fu : Nat) {out : Mm}   (a0 : Nat) (a1 : Option Nat) (a2 : Int32) (a3 : Option Nat) (a4 : Int32) (s0 : Int32) (M : Mm) (hB : Lst0 M) (h : fX7_give_L95 fu  a0 a1 a2 a3 a4 s0 M = some out) : Lst0 out := by
  unfold fX7_give_L95 at h
  obtain ⟨q1, eq1, h⟩ := bd h
  obtain ⟨M2, eM2, h⟩ := bd h
  have hB := eX1_write fu q1 (some 23) M hB eM2
  obtain ⟨q3, eq3, h⟩ := bd h
  obtain ⟨M4, eM4, h⟩ := bd h
  have hB := eX1_writeNumber fu q3 a2 M2 hB eM4
  obtain ⟨q5, eq5, h⟩ := bd h
  obtain ⟨M6, eM6, h⟩ := bd h
  have hB := eX1_write fu q5 (some 24) M4 hB eM6
  obtain ⟨q7, eq7, h⟩ := bd h
  obtain ⟨M8, eM8, h⟩ := bd h
  have hB := eX1_write fu q7 a3 M6 hB eM8
  by_cases hc : a2 = (304 : Int32)
  · have h := (if_pos hc).symm.trans h
    exact eX7_give_L167 fu    a0 a1 a2 a4 s0 M8 hB h
  · have h := (if_neg hc).symm.trans h
    obtain ⟨q9, eq9, h⟩ := bd h
    obtain ⟨M10, eM10, h⟩ := bd h
    have hB := eX1_write fu q9 (some 25) M8 hB eM10
    obtain ⟨q11, eq11, h⟩ := bd h
    obtain ⟨M12, eM12, h⟩ := bd h
    have hB := eX1_writeNumber fu q11 s0 M10 hB eM12
    obtain ⟨q13, eq13, h⟩ := bd h
    obtain ⟨M14, eM14, h⟩ := bd h
    have hB := eX1_write fu q13 (some 26) M12 hB eM14
    by_cases hc : a4 = 0
    · have h := (if_pos hc).symm.trans h
      exact eX7_give_L164 fu    a0 a1 a2 a4 s0 a1 (some 34) M14 hB h
    · have h := (if_neg hc).symm.trans h
      obtain ⟨q15, eq15, h⟩ := bd h
      obtain ⟨v17, M16, eM16, h⟩ := b2d h
      have hB := eX7_contentType fu q15  M14 hB eM16
      exact eX7_give_L164 fu    a0 a1 a2 a4 s0 a1 v17 M16 hB h
theorem eX7_give_L68 (fu : Nat) {out : Mm}   (a0 : Nat) (a1 : Option Nat) (a2 : Int32) (a3 : Option Nat) (s0 : Int32) (M : Mm) (hB : Lst0 M) (h : fX7_give_L68 fu  a0 a1 a2 a3 s0 M = some out) : Lst0 out := by
  unfold fX7_give_L68 at h
  by_cases hc : s0 = 0
  · have h := (if_pos hc).symm.trans h
    obtain ⟨q1, eq1, h⟩ := bd h
    obtain ⟨v3, M2, eM2, h⟩ := b2d h
    have hB := eJ0_length_8abf5 fu q1  M hB eM2
    exact eX7_give_L95 fu    a0 a1 a2 a3 s0 (v3 + (5 : Int32)) M2 hB h
  · have h := (if_neg hc).symm.trans h
    obtain ⟨v4, ev4, h⟩ := bd h
    obtain ⟨v5, ev5, h⟩ := bd h
    obtain ⟨q6, eq6, h⟩ := bd h
    obtain ⟨v8, M7, eM7, h⟩ := b2d h
    have hB := eX8_sizeOf fu q6 v5 M hB eM7
    exact eX7_give_L95 fu    a0 a1 a2 a3 s0 v8 M7 hB h
theorem eX7_give_L48 (fu : Nat) {out : Mm}   (a0 : Nat) (a1 : Option Nat) (a2 : Int32) (s0 : Option Nat) (s1 : Int32) (M : Mm) (hB : Lst0 M) (h : fX7_give_L48 fu  a0 a1 a2 s0 s1 M = some out) : Lst0 out := by
  unfold fX7_give_L48 at h
  obtain ⟨M1, eM1, h⟩ := bd h
  have hB := e_pZ hB eM1
  obtain ⟨v3, M2, eM2, h⟩ := b2d h
  have hB := eX7_phrase fu  a2 M1 hB eM2
  by_cases hc : a2 = (200 : Int32)
  · have h := (if_pos hc).symm.trans h
    exact eX7_give_L68 fu    a0 a1 a2 v3 (1 : Int32) M2 hB h
  · have h := (if_neg hc).symm.trans h
    exact eX7_give_L68 fu    a0 a1 a2 v3 (0 : Int32) M2 hB h
theorem eX7_give_L43 (fu : Nat) {out : Mm}   (a0 : Nat) (a1 : Option Nat) (a2 : Int32) (s0 : Option Nat) (M : Mm) (hB : Lst0 M) (h : fX7_give_L43 fu  a0 a1 a2 s0 M = some out) : Lst0 out := by
  unfold fX7_give_L43 at h
  exact eX7_give_L48 fu    a0 a1 a2 s0 (1 : Int32) M hB h
theorem eX7_give (fu : Nat) {out : Mm}   (a0 : Nat) (a1 : Option Nat) (a2 : Int32)  (M : Mm) (hB : Lst0 M) (h : fX7_give fu  a0 a1 a2 M = some out) : Lst0 out := by
  unfold fX7_give at h
  obtain ⟨v1, ev1, h⟩ := bd h
  obtain ⟨v2, ev2, h⟩ := bd h
  obtain ⟨v3, ev3, h⟩ := bd h
  obtain ⟨M4, eM4, h⟩ := bd h
  have hB := e_pA hB eM4
  obtain ⟨v5, ev5, h⟩ := bd h
  obtain ⟨q6, eq6, h⟩ := bd h
  obtain ⟨M7, eM7, h⟩ := bd h
  have hB := eX1_clearAnswer fu q6 v5 M4 hB eM7
  obtain ⟨q8, eq8, h⟩ := bd h
  obtain ⟨v10, M9, eM9, h⟩ := b2d h
  have hB := eX7_isPersistent fu q8  M7 hB eM9
  by_cases hc : v10 = 0
  · have h := (if_pos hc).symm.trans h
    exact eX7_give_L43 fu    a0 a1 a2 a1 M9 hB h
  · have h := (if_neg hc).symm.trans h
    obtain ⟨v12, M11, eM11, h⟩ := b2d h
    have hB := eX7_isBodyLeftOut fu  a2 M9 hB eM11
    by_cases hc : v12 = 0
    · have h := (if_pos hc).symm.trans h
      exact eX7_give_L43 fu    a0 a1 a2 a1 M11 hB h
    · have h := (if_neg hc).symm.trans h
      by_cases hc : a2 = (500 : Int32)
      · have h := (if_pos hc).symm.trans h
        exact eX7_give_L43 fu    a0 a1 a2 a1 M11 hB h
      · have h := (if_neg hc).symm.trans h
        exact eX7_give_L48 fu    a0 a1 a2 a1 (0 : Int32) M11 hB h
theorem eX7_lookAt_L81 (fu : Nat) {out : Mm}   (a2 : Option Nat) (s0 : Option Nat) (s1 : Int32) (M : Mm) (hB : Lst0 M) (h : fX7_lookAt_L81 fu  a2 s0 s1 M = some out) : Lst0 out := by
  unfold fX7_lookAt_L81 at h
  obtain ⟨M1, eM1, h⟩ := bd h
  have hB := e_pF hB eM1
  obtain ⟨q2, eq2, h⟩ := bd h
  obtain ⟨M3, eM3, h⟩ := bd h
  have hB := eX0_leaveBody fu q2  M1 hB eM3
  obtain rfl := Option.some.inj h
  exact hB
theorem eX7_lookAt_L31 (fu : Nat) {out : Mm}   (a0 : Nat) (a1 : Option Nat) (a2 : Option Nat)  (M : Mm) (hB : Lst0 M) (h : fX7_lookAt_L31 fu  a0 a1 a2 M = some out) : Lst0 out := by
  unfold fX7_lookAt_L31 at h
  obtain ⟨q1, eq1, h⟩ := bd h
  obtain ⟨v3, M2, eM2, h⟩ := b2d h
  have hB := eX7_copyHead fu q1 a2 M hB eM2
  by_cases hc : v3 ≤ 0
  · have h := (if_pos hc).symm.trans h
    obtain ⟨q4, eq4, h⟩ := bd h
    obtain ⟨v6, M5, eM5, h⟩ := b2d h
    have hB := eX0_held fu q4  M2 hB eM5
    by_cases hc : v6 < (4096 : Int32)
    · have h := (if_pos hc).symm.trans h
      obtain ⟨v7, ev7, h⟩ := bd h
      by_cases hc : v7 = (7 : Int32)
      · have h := (if_pos hc).symm.trans h
        obtain ⟨M8, eM8, h⟩ := bd h
        have hB := e_pZ hB eM8
        obtain rfl := Option.some.inj h
        exact hB
      · have h := (if_neg hc).symm.trans h
        obtain rfl := Option.some.inj h
        exact hB
    · have h := (if_neg hc).symm.trans h
      obtain ⟨q9, eq9, h⟩ := bd h
      obtain ⟨M10, eM10, h⟩ := bd h
      have hB := eX0_leave fu q9 (4096 : Int32) M5 hB eM10
      obtain ⟨q11, eq11, h⟩ := bd h
      obtain ⟨M12, eM12, h⟩ := bd h
      have hB := eX7_forget fu q11  M10 hB eM12
      obtain ⟨q13, eq13, h⟩ := bd h
      obtain ⟨M14, eM14, h⟩ := bd h
      have hB := eX7_give fu q13 a1 (431 : Int32) M12 hB eM14
      obtain rfl := Option.some.inj h
      exact hB
  · have h := (if_neg hc).symm.trans h
    obtain ⟨q15, eq15, h⟩ := bd h
    obtain ⟨M16, eM16, h⟩ := bd h
    have hB := eX0_leave fu q15 v3 M2 hB eM16
    obtain ⟨q17, eq17, h⟩ := bd h
    obtain ⟨v19, M18, eM18, h⟩ := b2d h
    have hB := eX7_readHead fu q17 v3 M16 hB eM18
    obtain ⟨q20, eq20, h⟩ := bd h
    obtain ⟨M21, eM21, h⟩ := bd h
    have hB := eX7_give fu q20 a1 v19 M18 hB eM21
    obtain ⟨v23, M22, eM22, h⟩ := b2d h
    have hB := eX7_isBodyLeftOut fu  v19 M21 hB eM22
    by_cases hc : v23 = 0
    · have h := (if_pos hc).symm.trans h
      exact eX7_lookAt_L81 fu    a2 a2 (0 : Int32) M22 hB h
    · have h := (if_neg hc).symm.trans h
      obtain ⟨v24, ev24, h⟩ := bd h
      exact eX7_lookAt_L81 fu    a2 a2 v24 M22 hB h
theorem eX7_lookAt (fu : Nat) {out : Mm}   (a0 : Nat) (a1 : Option Nat)  (M : Mm) (hB : Lst0 M) (h : fX7_lookAt fu  a0 a1 M = some out) : Lst0 out := by
  unfold fX7_lookAt at h
  obtain ⟨v1, ev1, h⟩ := bd h
  obtain ⟨q2, eq2, h⟩ := bd h
  obtain ⟨M3, eM3, h⟩ := bd h
  have hB := eX0_leaveBody fu q2  M hB eM3
  obtain ⟨q4, eq4, h⟩ := bd h
  obtain ⟨v6, M5, eM5, h⟩ := b2d h
  have hB := eX1_isReady fu q4  M3 hB eM5
  by_cases hc : v6 = 0
  · have h := (if_pos hc).symm.trans h
    obtain rfl := Option.some.inj h
    exact hB
  · have h := (if_neg hc).symm.trans h
    obtain ⟨v8, M7, eM7, h⟩ := b2d h
    have hB := eX7_emptyLines fu  v1 M5 hB eM7
    by_cases hc : v8 ≤ 0
    · have h := (if_pos hc).symm.trans h
      exact eX7_lookAt_L31 fu    a0 a1 v1 M7 hB h
    · have h := (if_neg hc).symm.trans h
      obtain ⟨q9, eq9, h⟩ := bd h
      obtain ⟨M10, eM10, h⟩ := bd h
      have hB := eX0_leave fu q9 v8 M7 hB eM10
      exact eX7_lookAt_L31 fu    a0 a1 v1 M10 hB h
theorem eX8_init (fu : Nat) {out : Mm}   (a0 : Nat)  (M : Mm) (hB : Lst0 M) (h : fX8_init fu  a0 M = some out) : Lst0 out := by
  unfold fX8_init at h
  obtain ⟨v1, M2, eM2, h⟩ := b2d h
  have hB := e_mkA (by decide) eM2
  obtain ⟨M3, eM3, h⟩ := bd h
  have hB := e_pG hB eM3
  obtain ⟨v4, M5, eM5, h⟩ := b2d h
  have hB := e_mkA (by decide) eM5
  obtain ⟨M6, eM6, h⟩ := bd h
  have hB := e_pG hB eM6
  obtain rfl := Option.some.inj h
  exact hB
theorem eJ7_copyOf_9075b (fu : Nat) {out : Option Nat × Mm}   (a0 : Option Nat) (a1 : Int32)  (M : Mm) (hB : Lst0 M) (h : fJ7_copyOf_9075b fu  a0 a1 M = some out) : Lst0 out.2 := by
  unfold fJ7_copyOf_9075b at h
  obtain ⟨v1, ev1, h⟩ := bd h
  by_cases hc : a1 = v1
  · have h := (if_pos hc).symm.trans h
    obtain ⟨v6, M7, eM7, h⟩ := b2d h
    have hB := e_cln eM7
    obtain ⟨q8, eq8, h⟩ := bd h
    obtain rfl := Option.some.inj h
    exact hB
  · have h := (if_neg hc).symm.trans h
    obtain ⟨v2, M3, eM3, h⟩ := b2d h
    have hB := e_mkA (by decide) eM3
    obtain ⟨v4, ev4, h⟩ := bd h
    obtain ⟨M5, eM5, h⟩ := bd h
    have hB := e_cp hB eM5
    obtain rfl := Option.some.inj h
    exact hB
theorem eX8_keep (fu : Nat) {out : Mm}   (a0 : Nat) (a1 : Option Nat) (a2 : Int32)  (M : Mm) (hB : Lst0 M) (h : fX8_keep fu  a0 a1 a2 M = some out) : Lst0 out := by
  unfold fX8_keep at h
  by_cases hc : a2 < 0
  · have h := (if_pos hc).symm.trans h
    obtain rfl := Option.some.inj h
    exact hB
  · have h := (if_neg hc).symm.trans h
    obtain ⟨v2, M1, eM1, h⟩ := b2d h
    have hB := eJ7_copyOf_9075b fu  a1 a2 M hB eM1
    obtain ⟨M3, eM3, h⟩ := bd h
    have hB := e_pG hB eM3
    obtain rfl := Option.some.inj h
    exact hB
theorem eX8_hasRightName_L96 (fu : Nat) {out : Int32 × Mm} (k35 : Nat → Int32 → Int32 → Int32 → Mm → Option (Int32 × Mm)) (hk35 : ∀ (b0 : Nat) (b1 : Int32) (b2 : Int32) (b3 : Int32)  (M : Mm), Lst0 M → k35 b0 b1 b2 b3 M = some out → Lst0 out.2) (a0 : Nat) (a1 : Int32) (a2 : Int32) (a3 : Int32)  (M : Mm) (hB : Lst0 M) (h : fX8_hasRightName_L96 fu k35 a0 a1 a2 a3 M = some out) : Lst0 out.2 := by
  unfold fX8_hasRightName_L96 at h
  exact hk35 a0 a1 a2 (a3 + (1 : Int32)) M hB h
theorem eX8_hasRightName_L67 (fu : Nat) {out : Int32 × Mm} (k35 : Nat → Int32 → Int32 → Int32 → Mm → Option (Int32 × Mm)) (hk35 : ∀ (b0 : Nat) (b1 : Int32) (b2 : Int32) (b3 : Int32)  (M : Mm), Lst0 M → k35 b0 b1 b2 b3 M = some out → Lst0 out.2) (a0 : Nat) (a1 : Int32) (a3 : Int32) (a4 : Int32) (s0 : Int32) (M : Mm) (hB : Lst0 M) (h : fX8_hasRightName_L67 fu k35 a0 a1 a3 a4 s0 M = some out) : Lst0 out.2 := by
  unfold fX8_hasRightName_L67 at h
  by_cases hc : s0 = 0
  · have h := (if_pos hc).symm.trans h
    by_cases hc : a4 < (33 : Int32)
    · have h := (if_pos hc).symm.trans h
      obtain ⟨hz, rfl⟩ := rN_some h
      exact hB
    · have h := (if_neg hc).symm.trans h
      by_cases hc : a4 ≤ (126 : Int32)
      · have h := (if_pos hc).symm.trans h
        exact eX8_hasRightName_L96 fu k35 hk35  a0 a1 s0 a3 M hB h
      · have h := (if_neg hc).symm.trans h
        obtain ⟨hz, rfl⟩ := rN_some h
        exact hB
  · have h := (if_neg hc).symm.trans h
    by_cases hc : a4 = 0
    · have h := (if_pos hc).symm.trans h
      exact eX8_hasRightName_L96 fu k35 hk35  a0 a1 s0 a3 M hB h
    · have h := (if_neg hc).symm.trans h
      obtain ⟨hz, rfl⟩ := rN_some h
      exact hB
theorem eX8_hasRightName_L62 (fu : Nat) {out : Int32 × Mm} (k35 : Nat → Int32 → Int32 → Int32 → Mm → Option (Int32 × Mm)) (hk35 : ∀ (b0 : Nat) (b1 : Int32) (b2 : Int32) (b3 : Int32)  (M : Mm), Lst0 M → k35 b0 b1 b2 b3 M = some out → Lst0 out.2) (a0 : Nat) (a1 : Int32) (a3 : Int32) (a4 : Int32)  (M : Mm) (hB : Lst0 M) (h : fX8_hasRightName_L62 fu k35 a0 a1 a3 a4 M = some out) : Lst0 out.2 := by
  unfold fX8_hasRightName_L62 at h
  exact eX8_hasRightName_L67 fu k35 hk35  a0 a1 a3 a4 (1 : Int32) M hB h
theorem eX8_hasRightName_L35 (fu : Nat) {out : Int32 × Mm}   : ∀ (n : Nat) (a0 : Nat) (a1 : Int32) (a2 : Int32) (a3 : Int32)  (M : Mm), Lst0 M → fX8_hasRightName_L35 fu  n a0 a1 a2 a3 M = some out → Lst0 out.2 := by
  intro n
  induction n with
  | zero =>
    intro a0 a1 a2 a3 M hB h
    have h : (none : Option (Int32 × Mm)) = some out := h
    cases h
  | succ n ih =>
    intro a0 a1 a2 a3 M hB h
    rw [fX8_hasRightName_L35] at h
    by_cases hc : (48 : Int32) ≤ a3
    · have h := (if_pos hc).symm.trans h
      obtain ⟨hz, rfl⟩ := rN_some h
      exact hB
    · have h := (if_neg hc).symm.trans h
      obtain ⟨v1, ev1, h⟩ := bd h
      obtain ⟨v3, M2, eM2, h⟩ := b2d h
      have hB := eX11_one fu  v1 (a1 + a3) M hB eM2
      by_cases hc : a2 = 0
      · have h := (if_pos hc).symm.trans h
        by_cases hc : v3 = 0
        · have h := (if_pos hc).symm.trans h
          exact eX8_hasRightName_L62 fu (fun b0 b1 b2 b3 M => fX8_hasRightName_L35 fu  n b0 b1 b2 b3 M) ih  a0 a1 a3 v3 M2 hB h
        · have h := (if_neg hc).symm.trans h
          exact eX8_hasRightName_L67 fu (fun b0 b1 b2 b3 M => fX8_hasRightName_L35 fu  n b0 b1 b2 b3 M) ih  a0 a1 a3 v3 (0 : Int32) M2 hB h
      · have h := (if_neg hc).symm.trans h
        exact eX8_hasRightName_L62 fu (fun b0 b1 b2 b3 M => fX8_hasRightName_L35 fu  n b0 b1 b2 b3 M) ih  a0 a1 a3 v3 M2 hB h
theorem eX8_hasRightName (fu : Nat) {out : Int32 × Mm}   (a0 : Nat) (a1 : Int32)  (M : Mm) (hB : Lst0 M) (h : fX8_hasRightName fu  a0 a1 M = some out) : Lst0 out.2 := by
  unfold fX8_hasRightName at h
  obtain ⟨v1, ev1, h⟩ := bd h
  obtain ⟨v3, M2, eM2, h⟩ := b2d h
  have hB := eX11_one fu  v1 a1 M hB eM2
  by_cases hc : v3 = (47 : Int32)
  · have h := (if_pos hc).symm.trans h
    obtain ⟨v4, ev4, h⟩ := bd h
    obtain ⟨v6, M5, eM5, h⟩ := b2d h
    have hB := eX11_one fu  v4 ((a1 + (48 : Int32)) - (1 : Int32)) M2 hB eM5
    by_cases hc : v6 = 0
    · have h := (if_pos hc).symm.trans h
      exact eX8_hasRightName_L35 fu   fu a0 a1 (0 : Int32) (1 : Int32) M5 hB h
    · have h := (if_neg hc).symm.trans h
      obtain ⟨hz, rfl⟩ := rN_some h
      exact hB
  · have h := (if_neg hc).symm.trans h
    obtain ⟨hz, rfl⟩ := rN_some h
    exact hB
theorem eX8_liesWithin (fu : Nat) {out : Int32 × Mm}   (a0 : Nat) (a1 : Int32)  (M : Mm) (hB : Lst0 M) (h : fX8_liesWithin fu  a0 a1 M = some out) : Lst0 out.2 := by
  unfold fX8_liesWithin at h
  obtain ⟨v1, ev1, h⟩ := bd h
  obtain ⟨v3, M2, eM2, h⟩ := b2d h
  have hB := eX11_four fu  v1 (a1 + (48 : Int32)) M hB eM2
  obtain ⟨v4, ev4, h⟩ := bd h
  obtain ⟨v5, ev5, h⟩ := bd h
  obtain ⟨v7, M6, eM6, h⟩ := b2d h
  have hB := eX11_four fu  v5 ((a1 + (48 : Int32)) + (4 : Int32)) M2 hB eM6
  obtain ⟨v8, ev8, h⟩ := bd h
  obtain ⟨v9, ev9, h⟩ := bd h
  obtain ⟨v10, ev10, h⟩ := bd h
  by_cases hc : 0 < (lg_cmp (v4 + v8) (Int32.toInt64 v10))
  · have h := (if_pos hc).symm.trans h
    obtain ⟨hz, rfl⟩ := rN_some h
    exact hB
  · have h := (if_neg hc).symm.trans h
    obtain ⟨v11, ev11, h⟩ := bd h
    obtain ⟨v13, M12, eM12, h⟩ := b2d h
    have hB := eX11_four fu  v11 ((a1 + (48 : Int32)) + (12 : Int32)) M6 hB eM12
    by_cases hc : v13 = 0
    · have h := (if_pos hc).symm.trans h
      obtain ⟨hz, rfl⟩ := rN_some h
      exact hB
    · have h := (if_neg hc).symm.trans h
      obtain ⟨hz, rfl⟩ := rN_some h
      exact hB
theorem eX8_isNamedBefore_L45 (fu : Nat) {out : Int32 × Mm} (k3 : Nat → Int32 → Int32 → Mm → Option (Int32 × Mm)) (hk3 : ∀ (b0 : Nat) (b1 : Int32) (b2 : Int32)  (M : Mm), Lst0 M → k3 b0 b1 b2 M = some out → Lst0 out.2) (a0 : Nat) (a1 : Int32) (a2 : Int32) (a3 : Int32)  (M : Mm) (hB : Lst0 M) (h : fX8_isNamedBefore_L45 fu k3 a0 a1 a2 a3 M = some out) : Lst0 out.2 := by
  unfold fX8_isNamedBefore_L45 at h
  by_cases hc : a3 = (48 : Int32)
  · have h := (if_pos hc).symm.trans h
    obtain ⟨hz, rfl⟩ := rN_some h
    exact hB
  · have h := (if_neg hc).symm.trans h
    exact hk3 a0 a1 (a2 + (64 : Int32)) M hB h
theorem eX8_isNamedBefore_L10 (fu : Nat) {out : Int32 × Mm} (k3 : Nat → Int32 → Int32 → Mm → Option (Int32 × Mm)) (hk3 : ∀ (b0 : Nat) (b1 : Int32) (b2 : Int32)  (M : Mm), Lst0 M → k3 b0 b1 b2 M = some out → Lst0 out.2) : ∀ (n : Nat) (a0 : Nat) (a1 : Int32) (a2 : Int32) (a3 : Int32)  (M : Mm), Lst0 M → fX8_isNamedBefore_L10 fu k3 n a0 a1 a2 a3 M = some out → Lst0 out.2 := by
  intro n
  induction n with
  | zero =>
    intro a0 a1 a2 a3 M hB h
    have h : (none : Option (Int32 × Mm)) = some out := h
    cases h
  | succ n ih =>
    intro a0 a1 a2 a3 M hB h
    rw [fX8_isNamedBefore_L10] at h
    by_cases hc : (48 : Int32) ≤ a3
    · have h := (if_pos hc).symm.trans h
      exact eX8_isNamedBefore_L45 fu k3 hk3  a0 a1 a2 a3 M hB h
    · have h := (if_neg hc).symm.trans h
      obtain ⟨v1, ev1, h⟩ := bd h
      obtain ⟨v3, M2, eM2, h⟩ := b2d h
      have hB := eX11_one fu  v1 (a2 + a3) M hB eM2
      obtain ⟨v4, ev4, h⟩ := bd h
      obtain ⟨v6, M5, eM5, h⟩ := b2d h
      have hB := eX11_one fu  v4 (a1 + a3) M2 hB eM5
      by_cases hc : v3 = v6
      · have h := (if_pos hc).symm.trans h
        exact ih a0 a1 a2 (a3 + (1 : Int32)) M5 hB h
      · have h := (if_neg hc).symm.trans h
        exact eX8_isNamedBefore_L45 fu k3 hk3  a0 a1 a2 a3 M5 hB h
theorem eX8_isNamedBefore_L3 (fu : Nat) {out : Int32 × Mm}   : ∀ (n : Nat) (a0 : Nat) (a1 : Int32) (a2 : Int32)  (M : Mm), Lst0 M → fX8_isNamedBefore_L3 fu  n a0 a1 a2 M = some out → Lst0 out.2 := by
  intro n
  induction n with
  | zero =>
    intro a0 a1 a2 M hB h
    have h : (none : Option (Int32 × Mm)) = some out := h
    cases h
  | succ n ih =>
    intro a0 a1 a2 M hB h
    rw [fX8_isNamedBefore_L3] at h
    by_cases hc : a1 ≤ a2
    · have h := (if_pos hc).symm.trans h
      obtain ⟨hz, rfl⟩ := rN_some h
      exact hB
    · have h := (if_neg hc).symm.trans h
      exact eX8_isNamedBefore_L10 fu (fun b0 b1 b2 M => fX8_isNamedBefore_L3 fu  n b0 b1 b2 M) ih fu a0 a1 a2 (0 : Int32) M hB h
theorem eX8_isNamedBefore (fu : Nat) {out : Int32 × Mm}   (a0 : Nat) (a1 : Int32)  (M : Mm) (hB : Lst0 M) (h : fX8_isNamedBefore fu  a0 a1 M = some out) : Lst0 out.2 := by
  unfold fX8_isNamedBefore at h
  exact eX8_isNamedBefore_L3 fu   fu a0 a1 (8 : Int32) M hB h
theorem eX8_isRight_L82 (fu : Nat) {out : Int32 × Mm}   : ∀ (n : Nat) (a0 : Nat) (a1 : Int32) (a3 : Int32)  (M : Mm), Lst0 M → fX8_isRight_L82 fu  n a0 a1 a3 M = some out → Lst0 out.2 := by
  intro n
  induction n with
  | zero =>
    intro a0 a1 a3 M hB h
    have h : (none : Option (Int32 × Mm)) = some out := h
    cases h
  | succ n ih =>
    intro a0 a1 a3 M hB h
    rw [fX8_isRight_L82] at h
    by_cases hc : a1 ≤ a3
    · have h := (if_pos hc).symm.trans h
      obtain ⟨hz, rfl⟩ := rN_some h
      exact hB
    · have h := (if_neg hc).symm.trans h
      obtain ⟨q1, eq1, h⟩ := bd h
      obtain ⟨v3, M2, eM2, h⟩ := b2d h
      have hB := eX8_hasRightName fu q1 ((8 : Int32) + ((64 : Int32) * a3)) M hB eM2
      by_cases hc : v3 = 0
      · have h := (if_pos hc).symm.trans h
        obtain ⟨hz, rfl⟩ := rN_some h
        exact hB
      · have h := (if_neg hc).symm.trans h
        obtain ⟨q4, eq4, h⟩ := bd h
        obtain ⟨v6, M5, eM5, h⟩ := b2d h
        have hB := eX8_liesWithin fu q4 ((8 : Int32) + ((64 : Int32) * a3)) M2 hB eM5
        by_cases hc : v6 = 0
        · have h := (if_pos hc).symm.trans h
          obtain ⟨hz, rfl⟩ := rN_some h
          exact hB
        · have h := (if_neg hc).symm.trans h
          obtain ⟨q7, eq7, h⟩ := bd h
          obtain ⟨v9, M8, eM8, h⟩ := b2d h
          have hB := eX8_isNamedBefore fu q7 ((8 : Int32) + ((64 : Int32) * a3)) M5 hB eM8
          by_cases hc : v9 = 0
          · have h := (if_pos hc).symm.trans h
            exact ih a0 a1 (a3 + (1 : Int32)) M8 hB h
          · have h := (if_neg hc).symm.trans h
            obtain ⟨hz, rfl⟩ := rN_some h
            exact hB
theorem eX8_isRight (fu : Nat) {out : Int32 × Mm}   (a0 : Nat)  (M : Mm) (hB : Lst0 M) (h : fX8_isRight fu  a0 M = some out) : Lst0 out.2 := by
  unfold fX8_isRight at h
  obtain ⟨v1, ev1, h⟩ := bd h
  obtain ⟨v3, M2, eM2, h⟩ := b2d h
  have hB := eX11_four fu  v1 (0 : Int32) M hB eM2
  by_cases hc : v3 = (1398034258 : Int32)
  · have h := (if_pos hc).symm.trans h
    obtain ⟨v4, ev4, h⟩ := bd h
    obtain ⟨v6, M5, eM5, h⟩ := b2d h
    have hB := eX11_two fu  v4 (6 : Int32) M2 hB eM5
    by_cases hc : v6 = 0
    · have h := (if_pos hc).symm.trans h
      obtain ⟨v7, ev7, h⟩ := bd h
      obtain ⟨v9, M8, eM8, h⟩ := b2d h
      have hB := eX11_two fu  v7 (4 : Int32) M5 hB eM8
      by_cases hc : (64 : Int32) < v9
      · have h := (if_pos hc).symm.trans h
        obtain ⟨hz, rfl⟩ := rN_some h
        exact hB
      · have h := (if_neg hc).symm.trans h
        obtain ⟨v10, ev10, h⟩ := bd h
        obtain ⟨v11, ev11, h⟩ := bd h
        by_cases hc : v11 < (((8 : Int32) + ((64 : Int32) * v9)) + (4 : Int32))
        · have h := (if_pos hc).symm.trans h
          obtain ⟨hz, rfl⟩ := rN_some h
          exact hB
        · have h := (if_neg hc).symm.trans h
          obtain ⟨v12, ev12, h⟩ := bd h
          obtain ⟨v14, M13, eM13, h⟩ := b2d h
          have hB := eX11_four fu  v12 ((8 : Int32) + ((64 : Int32) * v9)) M8 hB eM13
          obtain ⟨q15, eq15, h⟩ := bd h
          obtain ⟨v17, M16, eM16, h⟩ := b2d h
          have hB := eX8_checkOf fu q15 (0 : Int32) ((8 : Int32) + ((64 : Int32) * v9)) M13 hB eM16
          by_cases hc : v14 = v17
          · have h := (if_pos hc).symm.trans h
            exact eX8_isRight_L82 fu   fu a0 v9 (0 : Int32) M16 hB h
          · have h := (if_neg hc).symm.trans h
            obtain ⟨hz, rfl⟩ := rN_some h
            exact hB
    · have h := (if_neg hc).symm.trans h
      obtain ⟨hz, rfl⟩ := rN_some h
      exact hB
  · have h := (if_neg hc).symm.trans h
    obtain ⟨hz, rfl⟩ := rN_some h
    exact hB
