/-! ===== the last cell, printed by a program of ours ===== -/
theorem eX8_keepEntries_L49 (fu : Nat) {out : Mm}   (a0 : Nat) (a1 : Int32) (a2 : Int32)  (M : Mm) (hB : Lst0 M) (h : fX8_keepEntries_L49 fu  a0 a1 a2 M = some out) : Lst0 out := by
  unfold fX8_keepEntries_L49 at h
  obtain ⟨v1, ev1, h⟩ := bd h
  obtain ⟨v2, ev2, h⟩ := bd h
  obtain ⟨M3, eM3, h⟩ := bd h
  have hB := e_cp hB eM3
  obtain ⟨M4, eM4, h⟩ := bd h
  have hB := e_pF hB eM4
  obtain rfl := Option.some.inj h
  exact hB
theorem eX8_keepEntries (fu : Nat) {out : Mm}   (a0 : Nat)  (M : Mm) (hB : Lst0 M) (h : fX8_keepEntries fu  a0 M = some out) : Lst0 out := by
  unfold fX8_keepEntries at h
  obtain ⟨v1, ev1, h⟩ := bd h
  obtain ⟨v3, M2, eM2, h⟩ := b2d h
  have hB := eX11_two fu  v1 (4 : Int32) M hB eM2
  by_cases hc : (64 : Int32) < v3
  · have h := (if_pos hc).symm.trans h
    obtain rfl := Option.some.inj h
    exact hB
  · have h := (if_neg hc).symm.trans h
    obtain ⟨v4, ev4, h⟩ := bd h
    obtain ⟨v5, ev5, h⟩ := bd h
    by_cases hc : ((8 : Int32) + (v3 * (64 : Int32))) ≤ v5
    · have h := (if_pos hc).symm.trans h
      obtain ⟨v6, ev6, h⟩ := bd h
      obtain ⟨v7, ev7, h⟩ := bd h
      by_cases hc : (v3 * (64 : Int32)) ≤ v7
      · have h := (if_pos hc).symm.trans h
        exact eX8_keepEntries_L49 fu    a0 v3 (v3 * (64 : Int32)) M2 hB h
      · have h := (if_neg hc).symm.trans h
        obtain ⟨v8, M9, eM9, h⟩ := b2d h
        have hB := e_mkA (by decide) eM9
        obtain ⟨M10, eM10, h⟩ := bd h
        have hB := e_pG hB eM10
        exact eX8_keepEntries_L49 fu    a0 v3 (v3 * (64 : Int32)) M10 hB h
    · have h := (if_neg hc).symm.trans h
      obtain rfl := Option.some.inj h
      exact hB
theorem eX9_init (fu : Nat) {out : Mm}   (a0 : Nat) (a1 : Option Nat) (a2 : Option Nat) (a3 : Option Nat) (a4 : Option Nat)  (M : Mm) (hB : Lst0 M) (h : fX9_init fu  a0 a1 a2 a3 a4 M = some out) : Lst0 out := by
  unfold fX9_init at h
  obtain ⟨M1, eM1, h⟩ := bd h
  have hB := e_pG hB eM1
  obtain ⟨M2, eM2, h⟩ := bd h
  have hB := e_pG hB eM2
  obtain ⟨M3, eM3, h⟩ := bd h
  have hB := e_pG hB eM3
  obtain ⟨M4, eM4, h⟩ := bd h
  have hB := e_pG hB eM4
  obtain ⟨v5, M6, eM6, h⟩ := b2d h
  have hB := e_mkA (by decide) eM6
  obtain ⟨M7, eM7, h⟩ := bd h
  have hB := e_pG hB eM7
  obtain rfl := Option.some.inj h
  exact hB
theorem eX9_restart_L23 (fu : Nat) {out : Mm} (k2 : Nat → Int32 → Mm → Option (Mm)) (hk2 : ∀ (b0 : Nat) (b1 : Int32)  (M : Mm), Lst0 M → k2 b0 b1 M = some out → Lst0 out) (a0 : Nat) (a1 : Int32)  (M : Mm) (hB : Lst0 M) (h : fX9_restart_L23 fu k2 a0 a1 M = some out) : Lst0 out := by
  unfold fX9_restart_L23 at h
  exact hk2 a0 (a1 + (1 : Int32)) M hB h
theorem eX9_restart_L2 (fu : Nat) {out : Mm}   : ∀ (n : Nat) (a0 : Nat) (a1 : Int32)  (M : Mm), Lst0 M → fX9_restart_L2 fu  n a0 a1 M = some out → Lst0 out := by
  intro n
  induction n with
  | zero =>
    intro a0 a1 M hB h
    have h : (none : Option (Mm)) = some out := h
    cases h
  | succ n ih =>
    intro a0 a1 M hB h
    rw [fX9_restart_L2] at h
    by_cases hc : (16 : Int32) ≤ a1
    · have h := (if_pos hc).symm.trans h
      obtain rfl := Option.some.inj h
      exact hB
    · have h := (if_neg hc).symm.trans h
      obtain ⟨v1, ev1, h⟩ := bd h
      obtain ⟨v2, ev2, h⟩ := bd h
      by_cases hc : v2 = none
      · have h := (if_pos hc).symm.trans h
        exact eX9_restart_L23 fu (fun b0 b1 M => fX9_restart_L2 fu  n b0 b1 M) ih  a0 a1 M hB h
      · have h := (if_neg hc).symm.trans h
        obtain ⟨q3, eq3, h⟩ := bd h
        obtain ⟨M4, eM4, h⟩ := bd h
        have hB := eX1_leave fu q3  M hB eM4
        exact eX9_restart_L23 fu (fun b0 b1 M => fX9_restart_L2 fu  n b0 b1 M) ih  a0 a1 M4 hB h
theorem eX9_restart (fu : Nat) {out : Mm}   (a0 : Nat)  (M : Mm) (hB : Lst0 M) (h : fX9_restart fu  a0 M = some out) : Lst0 out := by
  unfold fX9_restart at h
  exact eX9_restart_L2 fu   fu a0 (0 : Int32) M hB h
theorem eX9_connectionAt (fu : Nat) {out : Option Nat × Mm}   (a0 : Nat) (a1 : Int32)  (M : Mm) (hB : Lst0 M) (h : fX9_connectionAt fu  a0 a1 M = some out) : Lst0 out.2 := by
  unfold fX9_connectionAt at h
  by_cases hc : a1 < 0
  · have h := (if_pos hc).symm.trans h
    obtain rfl := Option.some.inj h
    exact hB
  · have h := (if_neg hc).symm.trans h
    by_cases hc : a1 < (16 : Int32)
    · have h := (if_pos hc).symm.trans h
      obtain ⟨v1, ev1, h⟩ := bd h
      obtain ⟨v2, ev2, h⟩ := bd h
      by_cases hc : v2 = none
      · have h := (if_pos hc).symm.trans h
        obtain rfl := Option.some.inj h
        exact hB
      · have h := (if_neg hc).symm.trans h
        obtain ⟨v3, ev3, h⟩ := bd h
        by_cases hc : v3 = 0
        · have h := (if_pos hc).symm.trans h
          obtain rfl := Option.some.inj h
          exact hB
        · have h := (if_neg hc).symm.trans h
          obtain rfl := Option.some.inj h
          exact hB
    · have h := (if_neg hc).symm.trans h
      obtain rfl := Option.some.inj h
      exact hB
theorem eX9_isBusy_L27 (fu : Nat) {out : Int32 × Mm} (k2 : Nat → Int32 → Mm → Option (Int32 × Mm)) (hk2 : ∀ (b0 : Nat) (b1 : Int32)  (M : Mm), Lst0 M → k2 b0 b1 M = some out → Lst0 out.2) (a0 : Nat) (a1 : Int32)  (M : Mm) (hB : Lst0 M) (h : fX9_isBusy_L27 fu k2 a0 a1 M = some out) : Lst0 out.2 := by
  unfold fX9_isBusy_L27 at h
  exact hk2 a0 (a1 + (1 : Int32)) M hB h
theorem eX9_isBusy_L2 (fu : Nat) {out : Int32 × Mm}   : ∀ (n : Nat) (a0 : Nat) (a1 : Int32)  (M : Mm), Lst0 M → fX9_isBusy_L2 fu  n a0 a1 M = some out → Lst0 out.2 := by
  intro n
  induction n with
  | zero =>
    intro a0 a1 M hB h
    have h : (none : Option (Int32 × Mm)) = some out := h
    cases h
  | succ n ih =>
    intro a0 a1 M hB h
    rw [fX9_isBusy_L2] at h
    by_cases hc : (16 : Int32) ≤ a1
    · have h := (if_pos hc).symm.trans h
      obtain ⟨hz, rfl⟩ := rN_some h
      exact hB
    · have h := (if_neg hc).symm.trans h
      obtain ⟨q1, eq1, h⟩ := bd h
      obtain ⟨v3, M2, eM2, h⟩ := b2d h
      have hB := eX9_connectionAt fu q1 a1 M hB eM2
      by_cases hc : v3 = none
      · have h := (if_pos hc).symm.trans h
        exact eX9_isBusy_L27 fu (fun b0 b1 M => fX9_isBusy_L2 fu  n b0 b1 M) ih  a0 a1 M2 hB h
      · have h := (if_neg hc).symm.trans h
        obtain ⟨q4, eq4, h⟩ := bd h
        obtain ⟨v6, M5, eM5, h⟩ := b2d h
        have hB := eX1_isBusy fu q4  M2 hB eM5
        by_cases hc : v6 = 0
        · have h := (if_pos hc).symm.trans h
          exact eX9_isBusy_L27 fu (fun b0 b1 M => fX9_isBusy_L2 fu  n b0 b1 M) ih  a0 a1 M5 hB h
        · have h := (if_neg hc).symm.trans h
          obtain ⟨hz, rfl⟩ := rN_some h
          exact hB
theorem eX9_isBusy (fu : Nat) {out : Int32 × Mm}   (a0 : Nat)  (M : Mm) (hB : Lst0 M) (h : fX9_isBusy fu  a0 M = some out) : Lst0 out.2 := by
  unfold fX9_isBusy at h
  exact eX9_isBusy_L2 fu   fu a0 (0 : Int32) M hB h
theorem eX9_earliest_L40 (fu : Nat) {out : Int32 × Mm} (k5 : Nat → Int32 → Int32 → Mm → Option (Int32 × Mm)) (hk5 : ∀ (b0 : Nat) (b1 : Int32) (b2 : Int32)  (M : Mm), Lst0 M → k5 b0 b1 b2 M = some out → Lst0 out.2) (a0 : Nat) (a1 : Int32) (a2 : Int32)  (M : Mm) (hB : Lst0 M) (h : fX9_earliest_L40 fu k5 a0 a1 a2 M = some out) : Lst0 out.2 := by
  unfold fX9_earliest_L40 at h
  exact hk5 a0 a1 (a2 + (1 : Int32)) M hB h
theorem eX9_earliest_L5 (fu : Nat) {out : Int32 × Mm}   : ∀ (n : Nat) (a0 : Nat) (a1 : Int32) (a2 : Int32)  (M : Mm), Lst0 M → fX9_earliest_L5 fu  n a0 a1 a2 M = some out → Lst0 out.2 := by
  intro n
  induction n with
  | zero =>
    intro a0 a1 a2 M hB h
    have h : (none : Option (Int32 × Mm)) = some out := h
    cases h
  | succ n ih =>
    intro a0 a1 a2 M hB h
    rw [fX9_earliest_L5] at h
    by_cases hc : (16 : Int32) ≤ a2
    · have h := (if_pos hc).symm.trans h
      obtain rfl := Option.some.inj h
      exact hB
    · have h := (if_neg hc).symm.trans h
      obtain ⟨q1, eq1, h⟩ := bd h
      obtain ⟨v3, M2, eM2, h⟩ := b2d h
      have hB := eX9_connectionAt fu q1 a2 M hB eM2
      by_cases hc : v3 = none
      · have h := (if_pos hc).symm.trans h
        exact eX9_earliest_L40 fu (fun b0 b1 b2 M => fX9_earliest_L5 fu  n b0 b1 b2 M) ih  a0 a1 a2 M2 hB h
      · have h := (if_neg hc).symm.trans h
        obtain ⟨v4, ev4, h⟩ := bd h
        obtain ⟨v5, ev5, h⟩ := bd h
        obtain ⟨q6, eq6, h⟩ := bd h
        obtain ⟨v8, M7, eM7, h⟩ := b2d h
        have hB := eX1_lifeDue fu q6  M2 hB eM7
        exact eX9_earliest_L40 fu (fun b0 b1 b2 M => fX9_earliest_L5 fu  n b0 b1 b2 M) ih  a0 (jmin a1 (jmin v5 v8)) a2 M7 hB h
theorem eX9_earliest (fu : Nat) {out : Int32 × Mm}   (a0 : Nat)  (M : Mm) (hB : Lst0 M) (h : fX9_earliest fu  a0 M = some out) : Lst0 out.2 := by
  unfold fX9_earliest at h
  exact eX9_earliest_L5 fu   fu a0 (2147483647 : Int32) (0 : Int32) M hB h
theorem eX9_dueFirst_L39 (fu : Nat) {out : Option Nat × Mm} (k2 : Nat → Int32 → Int32 → Mm → Option (Option Nat × Mm)) (hk2 : ∀ (b0 : Nat) (b1 : Int32) (b2 : Int32)  (M : Mm), Lst0 M → k2 b0 b1 b2 M = some out → Lst0 out.2) (a0 : Nat) (a1 : Int32) (a2 : Int32)  (M : Mm) (hB : Lst0 M) (h : fX9_dueFirst_L39 fu k2 a0 a1 a2 M = some out) : Lst0 out.2 := by
  unfold fX9_dueFirst_L39 at h
  exact hk2 a0 a1 (a2 + (1 : Int32)) M hB h
theorem eX9_dueFirst_L2 (fu : Nat) {out : Option Nat × Mm}   : ∀ (n : Nat) (a0 : Nat) (a1 : Int32) (a2 : Int32)  (M : Mm), Lst0 M → fX9_dueFirst_L2 fu  n a0 a1 a2 M = some out → Lst0 out.2 := by
  intro n
  induction n with
  | zero =>
    intro a0 a1 a2 M hB h
    have h : (none : Option (Option Nat × Mm)) = some out := h
    cases h
  | succ n ih =>
    intro a0 a1 a2 M hB h
    rw [fX9_dueFirst_L2] at h
    by_cases hc : (16 : Int32) ≤ a2
    · have h := (if_pos hc).symm.trans h
      obtain rfl := Option.some.inj h
      exact hB
    · have h := (if_neg hc).symm.trans h
      obtain ⟨q1, eq1, h⟩ := bd h
      obtain ⟨v3, M2, eM2, h⟩ := b2d h
      have hB := eX9_connectionAt fu q1 a2 M hB eM2
      by_cases hc : v3 = none
      · have h := (if_pos hc).symm.trans h
        exact eX9_dueFirst_L39 fu (fun b0 b1 b2 M => fX9_dueFirst_L2 fu  n b0 b1 b2 M) ih  a0 a1 a2 M2 hB h
      · have h := (if_neg hc).symm.trans h
        obtain ⟨v4, ev4, h⟩ := bd h
        obtain ⟨v5, ev5, h⟩ := bd h
        by_cases hc : v5 = a1
        · have h := (if_pos hc).symm.trans h
          obtain rfl := Option.some.inj h
          exact hB
        · have h := (if_neg hc).symm.trans h
          obtain ⟨q6, eq6, h⟩ := bd h
          obtain ⟨v8, M7, eM7, h⟩ := b2d h
          have hB := eX1_lifeDue fu q6  M2 hB eM7
          by_cases hc : v8 = a1
          · have h := (if_pos hc).symm.trans h
            obtain rfl := Option.some.inj h
            exact hB
          · have h := (if_neg hc).symm.trans h
            exact eX9_dueFirst_L39 fu (fun b0 b1 b2 M => fX9_dueFirst_L2 fu  n b0 b1 b2 M) ih  a0 a1 a2 M7 hB h
theorem eX9_dueFirst (fu : Nat) {out : Option Nat × Mm}   (a0 : Nat) (a1 : Int32)  (M : Mm) (hB : Lst0 M) (h : fX9_dueFirst fu  a0 a1 M = some out) : Lst0 out.2 := by
  unfold fX9_dueFirst at h
  exact eX9_dueFirst_L2 fu   fu a0 a1 (0 : Int32) M hB h
theorem eX9_connectionOfSegment_L60 (fu : Nat) {out : Option Nat × Mm} (k2 : Nat → Int32 → Mm → Option (Option Nat × Mm)) (hk2 : ∀ (b0 : Nat) (b1 : Int32)  (M : Mm), Lst0 M → k2 b0 b1 M = some out → Lst0 out.2) (a0 : Nat) (a1 : Int32)  (M : Mm) (hB : Lst0 M) (h : fX9_connectionOfSegment_L60 fu k2 a0 a1 M = some out) : Lst0 out.2 := by
  unfold fX9_connectionOfSegment_L60 at h
  exact hk2 a0 (a1 + (1 : Int32)) M hB h
theorem eX9_connectionOfSegment_L2 (fu : Nat) {out : Option Nat × Mm}   : ∀ (n : Nat) (a0 : Nat) (a1 : Int32)  (M : Mm), Lst0 M → fX9_connectionOfSegment_L2 fu  n a0 a1 M = some out → Lst0 out.2 := by
  intro n
  induction n with
  | zero =>
    intro a0 a1 M hB h
    have h : (none : Option (Option Nat × Mm)) = some out := h
    cases h
  | succ n ih =>
    intro a0 a1 M hB h
    rw [fX9_connectionOfSegment_L2] at h
    by_cases hc : (16 : Int32) ≤ a1
    · have h := (if_pos hc).symm.trans h
      obtain rfl := Option.some.inj h
      exact hB
    · have h := (if_neg hc).symm.trans h
      obtain ⟨v1, ev1, h⟩ := bd h
      obtain ⟨v2, ev2, h⟩ := bd h
      by_cases hc : v2 = (80 : Int32)
      · have h := (if_pos hc).symm.trans h
        obtain ⟨q3, eq3, h⟩ := bd h
        obtain ⟨v5, M4, eM4, h⟩ := b2d h
        have hB := eX9_connectionAt fu q3 a1 M hB eM4
        by_cases hc : v5 = none
        · have h := (if_pos hc).symm.trans h
          exact eX9_connectionOfSegment_L60 fu (fun b0 b1 M => fX9_connectionOfSegment_L2 fu  n b0 b1 M) ih  a0 a1 M4 hB h
        · have h := (if_neg hc).symm.trans h
          obtain ⟨v6, ev6, h⟩ := bd h
          obtain ⟨v7, ev7, h⟩ := bd h
          obtain ⟨v8, ev8, h⟩ := bd h
          by_cases hc : v6 = v8
          · have h := (if_pos hc).symm.trans h
            obtain ⟨v9, ev9, h⟩ := bd h
            obtain ⟨v10, ev10, h⟩ := bd h
            obtain ⟨v11, ev11, h⟩ := bd h
            by_cases hc : v9 = v11
            · have h := (if_pos hc).symm.trans h
              obtain rfl := Option.some.inj h
              exact hB
            · have h := (if_neg hc).symm.trans h
              exact eX9_connectionOfSegment_L60 fu (fun b0 b1 M => fX9_connectionOfSegment_L2 fu  n b0 b1 M) ih  a0 a1 M4 hB h
          · have h := (if_neg hc).symm.trans h
            exact eX9_connectionOfSegment_L60 fu (fun b0 b1 M => fX9_connectionOfSegment_L2 fu  n b0 b1 M) ih  a0 a1 M4 hB h
      · have h := (if_neg hc).symm.trans h
        obtain rfl := Option.some.inj h
        exact hB
theorem eX9_connectionOfSegment (fu : Nat) {out : Option Nat × Mm}   (a0 : Nat)  (M : Mm) (hB : Lst0 M) (h : fX9_connectionOfSegment fu  a0 M = some out) : Lst0 out.2 := by
  unfold fX9_connectionOfSegment at h
  exact eX9_connectionOfSegment_L2 fu   fu a0 (0 : Int32) M hB h
theorem eX9_fillHeader (fu : Nat) {out : Mm}   (a0 : Nat) (a1 : Int32) (a2 : Int32) (a3 : Int32) (a4 : Int32) (a5 : Int32) (a6 : Int32)  (M : Mm) (hB : Lst0 M) (h : fX9_fillHeader fu  a0 a1 a2 a3 a4 a5 a6 M = some out) : Lst0 out := by
  unfold fX9_fillHeader at h
  obtain ⟨v1, ev1, h⟩ := bd h
  obtain ⟨v2, ev2, h⟩ := bd h
  obtain ⟨M3, eM3, h⟩ := bd h
  have hB := eX11_putTwo fu  v2 (34 : Int32) a1 M hB eM3
  obtain ⟨M4, eM4, h⟩ := bd h
  have hB := eX11_putTwo fu  v2 (36 : Int32) a2 M3 hB eM4
  obtain ⟨M5, eM5, h⟩ := bd h
  have hB := eX11_putFour fu  v2 (38 : Int32) a3 M4 hB eM5
  obtain ⟨M6, eM6, h⟩ := bd h
  have hB := eX11_putFour fu  v2 (42 : Int32) a4 M5 hB eM6
  obtain ⟨M7, eM7, h⟩ := bd h
  have hB := eX11_putTwo fu  v2 (46 : Int32) ((20480 : Int32) ||| a5) M6 hB eM7
  obtain ⟨M8, eM8, h⟩ := bd h
  have hB := eX11_putTwo fu  v2 (48 : Int32) a6 M7 hB eM8
  obtain ⟨M9, eM9, h⟩ := bd h
  have hB := eX11_putFour fu  v2 (50 : Int32) (0 : Int32) M8 hB eM9
  obtain rfl := Option.some.inj h
  exact hB
theorem eX9_sumUp (fu : Nat) {out : Mm}   (a0 : Nat) (a1 : Int32) (a2 : Int32)  (M : Mm) (hB : Lst0 M) (h : fX9_sumUp fu  a0 a1 a2 M = some out) : Lst0 out := by
  unfold fX9_sumUp at h
  obtain ⟨v1, ev1, h⟩ := bd h
  obtain ⟨v2, ev2, h⟩ := bd h
  obtain ⟨v3, ev3, h⟩ := bd h
  obtain ⟨v4, ev4, h⟩ := bd h
  obtain ⟨v6, M5, eM5, h⟩ := b2d h
  have hB := eX11_pseudoSum fu  v4 a1 a2 M hB eM5
  obtain ⟨v8, M7, eM7, h⟩ := b2d h
  have hB := eX11_added fu  v2 (34 : Int32) a2 v6 M5 hB eM7
  obtain ⟨v9, ev9, h⟩ := bd h
  obtain ⟨v10, ev10, h⟩ := bd h
  obtain ⟨M11, eM11, h⟩ := bd h
  have hB := eX11_putTwo fu  v10 (50 : Int32) (v8 ^^^ (-1 : Int32)) M7 hB eM11
  obtain rfl := Option.some.inj h
  exact hB
theorem eX9_reset_L93 (fu : Nat) {out : Mm}   (a0 : Nat)  (M : Mm) (hB : Lst0 M) (h : fX9_reset_L93 fu  a0 M = some out) : Lst0 out := by
  unfold fX9_reset_L93 at h
  obtain ⟨v1, ev1, h⟩ := bd h
  obtain ⟨v2, ev2, h⟩ := bd h
  obtain ⟨q3, eq3, h⟩ := bd h
  obtain ⟨M4, eM4, h⟩ := bd h
  have hB := eX9_sumUp fu q3 v2 (20 : Int32) M hB eM4
  obtain ⟨v5, ev5, h⟩ := bd h
  obtain ⟨v6, ev6, h⟩ := bd h
  obtain ⟨v7, ev7, h⟩ := bd h
  obtain ⟨q8, eq8, h⟩ := bd h
  obtain ⟨M9, eM9, h⟩ := bd h
  have hB := eX4_send fu q8 v7 (6 : Int32) (20 : Int32) M4 hB eM9
  obtain rfl := Option.some.inj h
  exact hB
theorem eX9_reset (fu : Nat) {out : Mm}   (a0 : Nat)  (M : Mm) (hB : Lst0 M) (h : fX9_reset fu  a0 M = some out) : Lst0 out := by
  unfold fX9_reset at h
  obtain ⟨v1, ev1, h⟩ := bd h
  obtain ⟨v2, ev2, h⟩ := bd h
  obtain ⟨v3, ev3, h⟩ := bd h
  obtain ⟨M4, eM4, h⟩ := bd h
  have hB := e_pA hB eM4
  obtain ⟨v5, ev5, h⟩ := bd h
  obtain ⟨q6, eq6, h⟩ := bd h
  obtain ⟨v8, M7, eM7, h⟩ := b2d h
  have hB := eX3_has fu q6 (16 : Int32) M4 hB eM7
  by_cases hc : v8 = 0
  · have h := (if_pos hc).symm.trans h
    obtain ⟨v9, ev9, h⟩ := bd h
    obtain ⟨v10, ev10, h⟩ := bd h
    obtain ⟨v11, ev11, h⟩ := bd h
    obtain ⟨v12, ev12, h⟩ := bd h
    obtain ⟨v13, ev13, h⟩ := bd h
    obtain ⟨v14, ev14, h⟩ := bd h
    obtain ⟨v15, ev15, h⟩ := bd h
    obtain ⟨q16, eq16, h⟩ := bd h
    obtain ⟨v18, M17, eM17, h⟩ := b2d h
    have hB := eX3_span fu q16  M7 hB eM17
    obtain ⟨q19, eq19, h⟩ := bd h
    obtain ⟨M20, eM20, h⟩ := bd h
    have hB := eX9_fillHeader fu q19 v10 v12 (0 : Int32) (v14 + v18) (20 : Int32) (0 : Int32) M17 hB eM20
    exact eX9_reset_L93 fu    a0 M20 hB h
  · have h := (if_neg hc).symm.trans h
    obtain ⟨v21, ev21, h⟩ := bd h
    obtain ⟨v22, ev22, h⟩ := bd h
    obtain ⟨v23, ev23, h⟩ := bd h
    obtain ⟨v24, ev24, h⟩ := bd h
    obtain ⟨v25, ev25, h⟩ := bd h
    obtain ⟨v26, ev26, h⟩ := bd h
    obtain ⟨q27, eq27, h⟩ := bd h
    obtain ⟨M28, eM28, h⟩ := bd h
    have hB := eX9_fillHeader fu q27 v22 v24 v26 (0 : Int32) (4 : Int32) (0 : Int32) M7 hB eM28
    exact eX9_reset_L93 fu    a0 M28 hB h
theorem eX9_freeConnection_L34 (fu : Nat) {out : Option Nat × Mm} (k2 : Nat → Int32 → Mm → Option (Option Nat × Mm)) (hk2 : ∀ (b0 : Nat) (b1 : Int32)  (M : Mm), Lst0 M → k2 b0 b1 M = some out → Lst0 out.2) (a0 : Nat) (a1 : Int32) (a2 : Option Nat)  (M : Mm) (hB : Lst0 M) (h : fX9_freeConnection_L34 fu k2 a0 a1 a2 M = some out) : Lst0 out.2 := by
  unfold fX9_freeConnection_L34 at h
  obtain ⟨v1, ev1, h⟩ := bd h
  by_cases hc : v1 = 0
  · have h := (if_pos hc).symm.trans h
    obtain rfl := Option.some.inj h
    exact hB
  · have h := (if_neg hc).symm.trans h
    exact hk2 a0 (a1 + (1 : Int32)) M hB h
theorem eX9_freeConnection_L2 (fu : Nat) {out : Option Nat × Mm}   : ∀ (n : Nat) (a0 : Nat) (a1 : Int32)  (M : Mm), Lst0 M → fX9_freeConnection_L2 fu  n a0 a1 M = some out → Lst0 out.2 := by
  intro n
  induction n with
  | zero =>
    intro a0 a1 M hB h
    have h : (none : Option (Option Nat × Mm)) = some out := h
    cases h
  | succ n ih =>
    intro a0 a1 M hB h
    rw [fX9_freeConnection_L2] at h
    by_cases hc : (16 : Int32) ≤ a1
    · have h := (if_pos hc).symm.trans h
      obtain rfl := Option.some.inj h
      exact hB
    · have h := (if_neg hc).symm.trans h
      obtain ⟨v1, ev1, h⟩ := bd h
      obtain ⟨v2, ev2, h⟩ := bd h
      by_cases hc : v2 = none
      · have h := (if_pos hc).symm.trans h
        obtain ⟨v3, M4, eM4, h⟩ := b2d h
        have hB := e_mkO (by decide) eM4
        obtain ⟨M5, eM5, h⟩ := bd h
        have hB := eX1_init fu v3  M4 hB eM5
        obtain ⟨v6, ev6, h⟩ := bd h
        obtain ⟨M7, eM7, h⟩ := bd h
        have hB := e_pB hB eM7
        exact eX9_freeConnection_L34 fu (fun b0 b1 M => fX9_freeConnection_L2 fu  n b0 b1 M) ih  a0 a1 (some v3) M7 hB h
      · have h := (if_neg hc).symm.trans h
        exact eX9_freeConnection_L34 fu (fun b0 b1 M => fX9_freeConnection_L2 fu  n b0 b1 M) ih  a0 a1 v2 M hB h
theorem eX9_freeConnection (fu : Nat) {out : Option Nat × Mm}   (a0 : Nat)  (M : Mm) (hB : Lst0 M) (h : fX9_freeConnection fu  a0 M = some out) : Lst0 out.2 := by
  unfold fX9_freeConnection at h
  exact eX9_freeConnection_L2 fu   fu a0 (0 : Int32) M hB h
theorem eX9_fill_L121 (fu : Nat) {out : Int32 × Mm}   (a0 : Nat) (a1 : Option Nat) (a5 : Int32)  (M : Mm) (hB : Lst0 M) (h : fX9_fill_L121 fu  a0 a1 a5 M = some out) : Lst0 out.2 := by
  unfold fX9_fill_L121 at h
  obtain ⟨v1, ev1, h⟩ := bd h
  obtain ⟨q2, eq2, h⟩ := bd h
  obtain ⟨M3, eM3, h⟩ := bd h
  have hB := eX9_sumUp fu q2 v1 a5 M hB eM3
  obtain rfl := Option.some.inj h
  exact hB
theorem eX9_fill_L93 (fu : Nat) {out : Int32 × Mm}   (a0 : Nat) (a1 : Option Nat) (a3 : Int32) (a5 : Int32)  (M : Mm) (hB : Lst0 M) (h : fX9_fill_L93 fu  a0 a1 a3 a5 M = some out) : Lst0 out.2 := by
  unfold fX9_fill_L93 at h
  by_cases hc : (a3 &&& (4 : Int32)) = 0
  · have h := (if_pos hc).symm.trans h
    obtain ⟨v1, ev1, h⟩ := bd h
    obtain ⟨v2, ev2, h⟩ := bd h
    obtain ⟨q3, eq3, h⟩ := bd h
    obtain ⟨v5, M4, eM4, h⟩ := b2d h
    have hB := eX0_window fu q3  M hB eM4
    obtain ⟨M6, eM6, h⟩ := bd h
    have hB := e_pF hB eM6
    obtain ⟨v7, ev7, h⟩ := bd h
    obtain ⟨M8, eM8, h⟩ := bd h
    have hB := e_pZ hB eM8
    exact eX9_fill_L121 fu    a0 a1 a5 M8 hB h
  · have h := (if_neg hc).symm.trans h
    exact eX9_fill_L121 fu    a0 a1 a5 M hB h
theorem eX9_fill_L23 (fu : Nat) {out : Int32 × Mm}   (a0 : Nat) (a1 : Option Nat) (a2 : Int32) (a3 : Int32) (a4 : Int32)  (M : Mm) (hB : Lst0 M) (h : fX9_fill_L23 fu  a0 a1 a2 a3 a4 M = some out) : Lst0 out.2 := by
  unfold fX9_fill_L23 at h
  obtain ⟨v1, ev1, h⟩ := bd h
  obtain ⟨v2, ev2, h⟩ := bd h
  obtain ⟨v3, ev3, h⟩ := bd h
  obtain ⟨v4, ev4, h⟩ := bd h
  obtain ⟨q5, eq5, h⟩ := bd h
  obtain ⟨v7, M6, eM6, h⟩ := b2d h
  have hB := eX0_window fu q5  M hB eM6
  obtain ⟨q8, eq8, h⟩ := bd h
  obtain ⟨M9, eM9, h⟩ := bd h
  have hB := eX9_fillHeader fu q8 (80 : Int32) v1 a2 v3 a3 v7 M6 hB eM9
  by_cases hc : (a3 &&& (2 : Int32)) = 0
  · have h := (if_pos hc).symm.trans h
    exact eX9_fill_L93 fu    a0 a1 a3 ((20 : Int32) + a4) M9 hB h
  · have h := (if_neg hc).symm.trans h
    obtain ⟨v10, ev10, h⟩ := bd h
    obtain ⟨v11, ev11, h⟩ := bd h
    obtain ⟨M12, eM12, h⟩ := bd h
    have hB := e_pA hB eM12
    obtain ⟨v13, ev13, h⟩ := bd h
    obtain ⟨v14, ev14, h⟩ := bd h
    obtain ⟨M15, eM15, h⟩ := bd h
    have hB := eX11_putFour fu  v14 (54 : Int32) (33818036 : Int32) M12 hB eM15
    exact eX9_fill_L93 fu    a0 a1 a3 (24 : Int32) M15 hB h
theorem eX9_fill (fu : Nat) {out : Int32 × Mm}   (a0 : Nat) (a1 : Option Nat) (a2 : Int32) (a3 : Int32) (a4 : Int32)  (M : Mm) (hB : Lst0 M) (h : fX9_fill fu  a0 a1 a2 a3 a4 M = some out) : Lst0 out.2 := by
  unfold fX9_fill at h
  obtain ⟨q1, eq1, h⟩ := bd h
  obtain ⟨v3, M2, eM2, h⟩ := b2d h
  have hB := eX1_allows fu q1 a3 a4 M hB eM2
  by_cases hc : v3 = 0
  · have h := (if_pos hc).symm.trans h
    obtain ⟨v4, ev4, h⟩ := bd h
    obtain ⟨v5, ev5, h⟩ := bd h
    obtain ⟨M6, eM6, h⟩ := bd h
    have hB := e_pF hB eM6
    exact eX9_fill_L23 fu    a0 a1 a2 a3 a4 M6 hB h
  · have h := (if_neg hc).symm.trans h
    exact eX9_fill_L23 fu    a0 a1 a2 a3 a4 M2 hB h
theorem eX9_sendPlain (fu : Nat) {out : Mm}   (a0 : Nat) (a1 : Option Nat) (a2 : Int32) (a3 : Int32)  (M : Mm) (hB : Lst0 M) (h : fX9_sendPlain fu  a0 a1 a2 a3 M = some out) : Lst0 out := by
  unfold fX9_sendPlain at h
  obtain ⟨v1, ev1, h⟩ := bd h
  obtain ⟨v2, ev2, h⟩ := bd h
  obtain ⟨q3, eq3, h⟩ := bd h
  obtain ⟨v5, M4, eM4, h⟩ := b2d h
  have hB := eX9_fill fu q3 a1 a2 a3 (0 : Int32) M hB eM4
  obtain ⟨q6, eq6, h⟩ := bd h
  obtain ⟨M7, eM7, h⟩ := bd h
  have hB := eX4_send fu q6 v2 (6 : Int32) v5 M4 hB eM7
  obtain rfl := Option.some.inj h
  exact hB
theorem eX9_takeWithoutConnection_L36 (fu : Nat) {out : Mm}   (a0 : Nat)  (M : Mm) (hB : Lst0 M) (h : fX9_takeWithoutConnection_L36 fu  a0 M = some out) : Lst0 out := by
  unfold fX9_takeWithoutConnection_L36 at h
  obtain ⟨q1, eq1, h⟩ := bd h
  obtain ⟨M2, eM2, h⟩ := bd h
  have hB := eX9_reset fu q1  M hB eM2
  obtain rfl := Option.some.inj h
  exact hB
theorem eX9_takeWithoutConnection_L71 (fu : Nat) {out : Mm}   (a0 : Nat) (s0 : Option Nat) (M : Mm) (hB : Lst0 M) (h : fX9_takeWithoutConnection_L71 fu  a0 s0 M = some out) : Lst0 out := by
  unfold fX9_takeWithoutConnection_L71 at h
  by_cases hc : s0 = none
  · have h := (if_pos hc).symm.trans h
    obtain rfl := Option.some.inj h
    exact hB
  · have h := (if_neg hc).symm.trans h
    obtain ⟨v1, ev1, h⟩ := bd h
    obtain ⟨v2, ev2, h⟩ := bd h
    obtain ⟨v3, ev3, h⟩ := bd h
    obtain ⟨M4, eM4, h⟩ := bd h
    have hB := e_pA hB eM4
    obtain ⟨v5, ev5, h⟩ := bd h
    obtain ⟨v6, ev6, h⟩ := bd h
    obtain ⟨v7, ev7, h⟩ := bd h
    obtain ⟨v8, ev8, h⟩ := bd h
    obtain ⟨v9, ev9, h⟩ := bd h
    obtain ⟨v10, ev10, h⟩ := bd h
    obtain ⟨q11, eq11, h⟩ := bd h
    obtain ⟨M12, eM12, h⟩ := bd h
    have hB := eX1_begin fu q11 v5 (((64000 : Int32) * v8) + ((250 : Int32) * v10)) M4 hB eM12
    obtain ⟨v13, ev13, h⟩ := bd h
    obtain ⟨v14, ev14, h⟩ := bd h
    obtain ⟨v15, ev15, h⟩ := bd h
    obtain ⟨v16, ev16, h⟩ := bd h
    obtain ⟨q17, eq17, h⟩ := bd h
    obtain ⟨M18, eM18, h⟩ := bd h
    have hB := eX5_startTiming fu q17 v14 v16 M12 hB eM18
    obtain ⟨v19, ev19, h⟩ := bd h
    obtain ⟨v20, ev20, h⟩ := bd h
    obtain ⟨v21, ev21, h⟩ := bd h
    obtain ⟨v22, ev22, h⟩ := bd h
    obtain ⟨v23, ev23, h⟩ := bd h
    obtain ⟨M24, eM24, h⟩ := bd h
    have hB := e_pF hB eM24
    obtain ⟨v25, ev25, h⟩ := bd h
    obtain ⟨q26, eq26, h⟩ := bd h
    obtain ⟨M27, eM27, h⟩ := bd h
    have hB := eX9_sendPlain fu q26 s0 v25 (18 : Int32) M24 hB eM27
    obtain rfl := Option.some.inj h
    exact hB
theorem eX9_takeWithoutConnection_L70 (fu : Nat) {out : Mm}   (a0 : Nat)  (M : Mm) (hB : Lst0 M) (h : fX9_takeWithoutConnection_L70 fu  a0 M = some out) : Lst0 out := by
  unfold fX9_takeWithoutConnection_L70 at h
  exact eX9_takeWithoutConnection_L71 fu    a0 none M hB h
theorem eX9_takeWithoutConnection (fu : Nat) {out : Mm}   (a0 : Nat)  (M : Mm) (hB : Lst0 M) (h : fX9_takeWithoutConnection fu  a0 M = some out) : Lst0 out := by
  unfold fX9_takeWithoutConnection at h
  obtain ⟨v1, ev1, h⟩ := bd h
  obtain ⟨q2, eq2, h⟩ := bd h
  obtain ⟨v4, M3, eM3, h⟩ := b2d h
  have hB := eX3_has fu q2 (4 : Int32) M hB eM3
  by_cases hc : v4 = 0
  · have h := (if_pos hc).symm.trans h
    obtain ⟨v5, ev5, h⟩ := bd h
    obtain ⟨v6, ev6, h⟩ := bd h
    by_cases hc : v6 = (80 : Int32)
    · have h := (if_pos hc).symm.trans h
      obtain ⟨v7, ev7, h⟩ := bd h
      obtain ⟨q8, eq8, h⟩ := bd h
      obtain ⟨v10, M9, eM9, h⟩ := b2d h
      have hB := eX3_has fu q8 (16 : Int32) M3 hB eM9
      by_cases hc : v10 = 0
      · have h := (if_pos hc).symm.trans h
        obtain ⟨v11, ev11, h⟩ := bd h
        obtain ⟨q12, eq12, h⟩ := bd h
        obtain ⟨v14, M13, eM13, h⟩ := b2d h
        have hB := eX3_has fu q12 (2 : Int32) M9 hB eM13
        by_cases hc : v14 = 0
        · have h := (if_pos hc).symm.trans h
          exact eX9_takeWithoutConnection_L70 fu    a0 M13 hB h
        · have h := (if_neg hc).symm.trans h
          obtain ⟨v15, ev15, h⟩ := bd h
          obtain ⟨q16, eq16, h⟩ := bd h
          obtain ⟨v18, M17, eM17, h⟩ := b2d h
          have hB := eX3_has fu q16 (1 : Int32) M13 hB eM17
          by_cases hc : v18 = 0
          · have h := (if_pos hc).symm.trans h
            obtain ⟨q19, eq19, h⟩ := bd h
            obtain ⟨v21, M20, eM20, h⟩ := b2d h
            have hB := eX9_freeConnection fu q19  M17 hB eM20
            exact eX9_takeWithoutConnection_L71 fu    a0 v21 M20 hB h
          · have h := (if_neg hc).symm.trans h
            exact eX9_takeWithoutConnection_L70 fu    a0 M17 hB h
      · have h := (if_neg hc).symm.trans h
        exact eX9_takeWithoutConnection_L36 fu    a0 M9 hB h
    · have h := (if_neg hc).symm.trans h
      exact eX9_takeWithoutConnection_L36 fu    a0 M3 hB h
  · have h := (if_neg hc).symm.trans h
    obtain rfl := Option.some.inj h
    exact hB
theorem eX9_refuse (fu : Nat) {out : Mm}   (a0 : Nat) (a1 : Option Nat)  (M : Mm) (hB : Lst0 M) (h : fX9_refuse fu  a0 a1 M = some out) : Lst0 out := by
  unfold fX9_refuse at h
  obtain ⟨v1, ev1, h⟩ := bd h
  obtain ⟨q2, eq2, h⟩ := bd h
  obtain ⟨v4, M3, eM3, h⟩ := b2d h
  have hB := eX3_has fu q2 (4 : Int32) M hB eM3
  by_cases hc : v4 = 0
  · have h := (if_pos hc).symm.trans h
    obtain ⟨v5, ev5, h⟩ := bd h
    obtain ⟨q6, eq6, h⟩ := bd h
    obtain ⟨M7, eM7, h⟩ := bd h
    have hB := eX9_sendPlain fu q6 a1 v5 (16 : Int32) M3 hB eM7
    obtain ⟨v8, ev8, h⟩ := bd h
    by_cases hc : v8 = (6 : Int32)
    · have h := (if_pos hc).symm.trans h
      obtain ⟨v9, ev9, h⟩ := bd h
      obtain ⟨q10, eq10, h⟩ := bd h
      obtain ⟨v12, M11, eM11, h⟩ := b2d h
      have hB := eX3_has fu q10 (1 : Int32) M7 hB eM11
      by_cases hc : v12 = 0
      · have h := (if_pos hc).symm.trans h
        obtain rfl := Option.some.inj h
        exact hB
      · have h := (if_neg hc).symm.trans h
        obtain ⟨v13, ev13, h⟩ := bd h
        obtain ⟨v14, ev14, h⟩ := bd h
        obtain ⟨q15, eq15, h⟩ := bd h
        obtain ⟨M16, eM16, h⟩ := bd h
        have hB := eX1_linger fu q15 v14 M11 hB eM16
        obtain rfl := Option.some.inj h
        exact hB
    · have h := (if_neg hc).symm.trans h
      obtain rfl := Option.some.inj h
      exact hB
  · have h := (if_neg hc).symm.trans h
    obtain rfl := Option.some.inj h
    exact hB
theorem eX9_takeNew_L161 (fu : Nat) {out : Mm}   (a0 : Nat) (a1 : Option Nat) (s0 : Option Nat) (s1 : Int32) (M : Mm) (hB : Lst0 M) (h : fX9_takeNew_L161 fu  a0 a1 s0 s1 M = some out) : Lst0 out := by
  unfold fX9_takeNew_L161 at h
  obtain ⟨M1, eM1, h⟩ := bd h
  have hB := e_pF hB eM1
  obtain ⟨v2, ev2, h⟩ := bd h
  obtain ⟨v3, ev3, h⟩ := bd h
  obtain ⟨M4, eM4, h⟩ := bd h
  have hB := e_pF hB eM4
  obtain rfl := Option.some.inj h
  exact hB
theorem eX9_takeNew_L125 (fu : Nat) {out : Mm}   (a0 : Nat) (a1 : Option Nat)  (M : Mm) (hB : Lst0 M) (h : fX9_takeNew_L125 fu  a0 a1 M = some out) : Lst0 out := by
  unfold fX9_takeNew_L125 at h
  obtain ⟨v1, ev1, h⟩ := bd h
  obtain ⟨v2, ev2, h⟩ := bd h
  obtain ⟨v3, ev3, h⟩ := bd h
  by_cases hc : 0 ≤ (v2 - v3)
  · have h := (if_pos hc).symm.trans h
    exact eX9_takeNew_L161 fu    a0 a1 v1 (2147483647 : Int32) M hB h
  · have h := (if_neg hc).symm.trans h
    obtain ⟨v4, ev4, h⟩ := bd h
    obtain ⟨v5, ev5, h⟩ := bd h
    obtain ⟨v6, ev6, h⟩ := bd h
    obtain ⟨v7, ev7, h⟩ := bd h
    exact eX9_takeNew_L161 fu    a0 a1 v1 (v5 + v7) M hB h
theorem eX9_takeNew_L78 (fu : Nat) {out : Mm}   (a0 : Nat) (a1 : Option Nat)  (M : Mm) (hB : Lst0 M) (h : fX9_takeNew_L78 fu  a0 a1 M = some out) : Lst0 out := by
  unfold fX9_takeNew_L78 at h
  obtain ⟨v1, ev1, h⟩ := bd h
  obtain ⟨M2, eM2, h⟩ := bd h
  have hB := e_pF hB eM2
  obtain ⟨v3, ev3, h⟩ := bd h
  obtain ⟨M4, eM4, h⟩ := bd h
  have hB := e_pF hB eM4
  obtain ⟨v5, ev5, h⟩ := bd h
  obtain ⟨v6, ev6, h⟩ := bd h
  obtain ⟨M7, eM7, h⟩ := bd h
  have hB := e_pF hB eM7
  obtain ⟨v8, ev8, h⟩ := bd h
  obtain ⟨v9, ev9, h⟩ := bd h
  by_cases hc : 0 ≤ (v8 - v9)
  · have h := (if_pos hc).symm.trans h
    exact eX9_takeNew_L125 fu    a0 a1 M7 hB h
  · have h := (if_neg hc).symm.trans h
    obtain ⟨v10, ev10, h⟩ := bd h
    obtain ⟨M11, eM11, h⟩ := bd h
    have hB := e_pF hB eM11
    exact eX9_takeNew_L125 fu    a0 a1 M11 hB h
theorem eX9_takeNew (fu : Nat) {out : Mm}   (a0 : Nat) (a1 : Option Nat)  (M : Mm) (hB : Lst0 M) (h : fX9_takeNew fu  a0 a1 M = some out) : Lst0 out := by
  unfold fX9_takeNew at h
  obtain ⟨v1, ev1, h⟩ := bd h
  obtain ⟨v2, ev2, h⟩ := bd h
  obtain ⟨v3, ev3, h⟩ := bd h
  obtain ⟨v4, ev4, h⟩ := bd h
  obtain ⟨v5, ev5, h⟩ := bd h
  obtain ⟨v6, ev6, h⟩ := bd h
  obtain ⟨M7, eM7, h⟩ := bd h
  have hB := e_pA hB eM7
  obtain ⟨v8, ev8, h⟩ := bd h
  obtain ⟨v9, ev9, h⟩ := bd h
  obtain ⟨v10, ev10, h⟩ := bd h
  obtain ⟨M11, eM11, h⟩ := bd h
  have hB := e_pA hB eM11
  obtain ⟨v12, ev12, h⟩ := bd h
  obtain ⟨v13, ev13, h⟩ := bd h
  obtain ⟨v14, ev14, h⟩ := bd h
  obtain ⟨v15, ev15, h⟩ := bd h
  obtain ⟨v16, ev16, h⟩ := bd h
  obtain ⟨q17, eq17, h⟩ := bd h
  obtain ⟨M18, eM18, h⟩ := bd h
  have hB := eX5_endTiming fu q17 v14 v16 M11 hB eM18
  obtain ⟨v19, ev19, h⟩ := bd h
  by_cases hc : v19 = (1 : Int32)
  · have h := (if_pos hc).symm.trans h
    exact eX9_takeNew_L78 fu    a0 a1 M18 hB h
  · have h := (if_neg hc).symm.trans h
    obtain ⟨v20, ev20, h⟩ := bd h
    obtain ⟨q21, eq21, h⟩ := bd h
    obtain ⟨M22, eM22, h⟩ := bd h
    have hB := eX5_grow fu q21 (v2 - v3) M18 hB eM22
    exact eX9_takeNew_L78 fu    a0 a1 M22 hB h
theorem eX9_isOpened (fu : Nat) {out : Int32 × Mm}   (a0 : Nat) (a1 : Option Nat)  (M : Mm) (hB : Lst0 M) (h : fX9_isOpened fu  a0 a1 M = some out) : Lst0 out.2 := by
  unfold fX9_isOpened at h
  obtain ⟨v1, ev1, h⟩ := bd h
  obtain ⟨v2, ev2, h⟩ := bd h
  obtain ⟨v3, ev3, h⟩ := bd h
  by_cases hc : v2 = (v3 + (1 : Int32))
  · have h := (if_pos hc).symm.trans h
    obtain ⟨q4, eq4, h⟩ := bd h
    obtain ⟨M5, eM5, h⟩ := bd h
    have hB := eX9_takeNew fu q4 a1 M hB eM5
    obtain ⟨v6, ev6, h⟩ := bd h
    obtain ⟨q7, eq7, h⟩ := bd h
    obtain ⟨M8, eM8, h⟩ := bd h
    have hB := eX1_takeWindow fu q7 v6 M5 hB eM8
    obtain ⟨M9, eM9, h⟩ := bd h
    have hB := e_pF hB eM9
    obtain ⟨hz, rfl⟩ := rN_some h
    exact hB
  · have h := (if_neg hc).symm.trans h
    obtain ⟨q10, eq10, h⟩ := bd h
    obtain ⟨M11, eM11, h⟩ := bd h
    have hB := eX9_reset fu q10  M hB eM11
    obtain ⟨hz, rfl⟩ := rN_some h
    exact hB
theorem eX9_isDuplicate (fu : Nat) {out : Int32 × Mm}   (a0 : Nat) (a1 : Option Nat)  (M : Mm) (hB : Lst0 M) (h : fX9_isDuplicate fu  a0 a1 M = some out) : Lst0 out.2 := by
  unfold fX9_isDuplicate at h
  obtain ⟨v1, ev1, h⟩ := bd h
  obtain ⟨v2, ev2, h⟩ := bd h
  obtain ⟨v3, ev3, h⟩ := bd h
  by_cases hc : v2 = v3
  · have h := (if_pos hc).symm.trans h
    obtain ⟨v4, ev4, h⟩ := bd h
    obtain ⟨q5, eq5, h⟩ := bd h
    obtain ⟨v7, M6, eM6, h⟩ := b2d h
    have hB := eX3_span fu q5  M hB eM6
    by_cases hc : v7 = 0
    · have h := (if_pos hc).symm.trans h
      obtain ⟨v8, ev8, h⟩ := bd h
      obtain ⟨v9, ev9, h⟩ := bd h
      obtain ⟨v10, ev10, h⟩ := bd h
      by_cases hc : v9 = v10
      · have h := (if_pos hc).symm.trans h
        obtain ⟨v11, ev11, h⟩ := bd h
        obtain ⟨v12, ev12, h⟩ := bd h
        by_cases hc : 0 ≤ (v11 - v12)
        · have h := (if_pos hc).symm.trans h
          obtain ⟨hz, rfl⟩ := rN_some h
          exact hB
        · have h := (if_neg hc).symm.trans h
          obtain ⟨hz, rfl⟩ := rN_some h
          exact hB
      · have h := (if_neg hc).symm.trans h
        obtain ⟨hz, rfl⟩ := rN_some h
        exact hB
    · have h := (if_neg hc).symm.trans h
      obtain ⟨hz, rfl⟩ := rN_some h
      exact hB
  · have h := (if_neg hc).symm.trans h
    obtain ⟨hz, rfl⟩ := rN_some h
    exact hB
theorem eX9_copyAnswer_L42 (fu : Nat) {out : Mm}   : ∀ (n : Nat) (a0 : Nat) (a1 : Option Nat) (a2 : Int32) (a3 : Int32) (a4 : Int32) (a5 : Int32) (a6 : Int32)  (M : Mm), Lst0 M → fX9_copyAnswer_L42 fu  n a0 a1 a2 a3 a4 a5 a6 M = some out → Lst0 out := by
  intro n
  induction n with
  | zero =>
    intro a0 a1 a2 a3 a4 a5 a6 M hB h
    have h : (none : Option (Mm)) = some out := h
    cases h
  | succ n ih =>
    intro a0 a1 a2 a3 a4 a5 a6 M hB h
    rw [fX9_copyAnswer_L42] at h
    by_cases hc : a5 ≤ a6
    · have h := (if_pos hc).symm.trans h
      obtain ⟨v1, ev1, h⟩ := bd h
      obtain ⟨v2, ev2, h⟩ := bd h
      by_cases hc : (a3 - a5) ≤ 0
      · have h := (if_pos hc).symm.trans h
        obtain rfl := Option.some.inj h
        exact hB
      · have h := (if_neg hc).symm.trans h
        by_cases hc : (((v1 + a2) + a5) - v2) < 0
        · have h := (if_pos hc).symm.trans h
          obtain rfl := Option.some.inj h
          exact hB
        · have h := (if_neg hc).symm.trans h
          obtain ⟨v3, ev3, h⟩ := bd h
          obtain ⟨v4, ev4, h⟩ := bd h
          obtain ⟨v5, ev5, h⟩ := bd h
          by_cases hc : v5 < ((((v1 + a2) + a5) - v2) + (a3 - a5))
          · have h := (if_pos hc).symm.trans h
            obtain rfl := Option.some.inj h
            exact hB
          · have h := (if_neg hc).symm.trans h
            obtain ⟨v6, ev6, h⟩ := bd h
            obtain ⟨v7, ev7, h⟩ := bd h
            obtain ⟨v8, ev8, h⟩ := bd h
            obtain ⟨v9, ev9, h⟩ := bd h
            obtain ⟨M10, eM10, h⟩ := bd h
            have hB := e_cp hB eM10
            obtain rfl := Option.some.inj h
            exact hB
    · have h := (if_neg hc).symm.trans h
      obtain ⟨v11, ev11, h⟩ := bd h
      obtain ⟨v12, ev12, h⟩ := bd h
      obtain ⟨v13, ev13, h⟩ := bd h
      obtain ⟨v15, M14, eM14, h⟩ := b2d h
      have hB := eX11_one fu  v13 (a2 + a6) M hB eM14
      obtain ⟨M16, eM16, h⟩ := bd h
      have hB := e_pA hB eM16
      exact ih a0 a1 a2 a3 a4 a5 (a6 + (1 : Int32)) M16 hB h
theorem eX9_copyAnswer (fu : Nat) {out : Mm}   (a0 : Nat) (a1 : Option Nat) (a2 : Int32) (a3 : Int32)  (M : Mm) (hB : Lst0 M) (h : fX9_copyAnswer fu  a0 a1 a2 a3 M = some out) : Lst0 out := by
  unfold fX9_copyAnswer at h
  by_cases hc : a2 < 0
  · have h := (if_pos hc).symm.trans h
    obtain rfl := Option.some.inj h
    exact hB
  · have h := (if_neg hc).symm.trans h
    by_cases hc : a3 < 0
    · have h := (if_pos hc).symm.trans h
      obtain rfl := Option.some.inj h
      exact hB
    · have h := (if_neg hc).symm.trans h
      by_cases hc : a3 ≤ ((1514 : Int32) - (54 : Int32))
      · have h := (if_pos hc).symm.trans h
        obtain ⟨v1, ev1, h⟩ := bd h
        exact eX9_copyAnswer_L42 fu   fu a0 a1 a2 a3 (54 : Int32) (jmax (0 : Int32) (jmin a3 (v1 - a2))) (0 : Int32) M hB h
      · have h := (if_neg hc).symm.trans h
        obtain rfl := Option.some.inj h
        exact hB
theorem eX9_sendPart_L147 (fu : Nat) {out : Mm}   (a0 : Nat) (a1 : Option Nat) (a2 : Int32) (a4 : Int32) (a5 : Int32)  (M : Mm) (hB : Lst0 M) (h : fX9_sendPart_L147 fu  a0 a1 a2 a4 a5 M = some out) : Lst0 out := by
  unfold fX9_sendPart_L147 at h
  obtain ⟨v1, ev1, h⟩ := bd h
  obtain ⟨q2, eq2, h⟩ := bd h
  obtain ⟨M3, eM3, h⟩ := bd h
  have hB := eX9_copyAnswer fu q2 a1 (a2 - v1) a4 M hB eM3
  obtain ⟨v4, ev4, h⟩ := bd h
  obtain ⟨v5, ev5, h⟩ := bd h
  obtain ⟨q6, eq6, h⟩ := bd h
  obtain ⟨v8, M7, eM7, h⟩ := b2d h
  have hB := eX9_fill fu q6 a1 a2 a5 a4 M3 hB eM7
  obtain ⟨q9, eq9, h⟩ := bd h
  obtain ⟨M10, eM10, h⟩ := bd h
  have hB := eX4_send fu q9 v5 (6 : Int32) v8 M7 hB eM10
  obtain rfl := Option.some.inj h
  exact hB
theorem eX9_sendPart_L113 (fu : Nat) {out : Mm}   (a0 : Nat) (a1 : Option Nat) (a2 : Int32) (a4 : Int32) (a5 : Int32)  (M : Mm) (hB : Lst0 M) (h : fX9_sendPart_L113 fu  a0 a1 a2 a4 a5 M = some out) : Lst0 out := by
  unfold fX9_sendPart_L113 at h
  obtain ⟨v1, ev1, h⟩ := bd h
  obtain ⟨v2, ev2, h⟩ := bd h
  by_cases hc : v2 = (2147483647 : Int32)
  · have h := (if_pos hc).symm.trans h
    obtain ⟨v3, ev3, h⟩ := bd h
    obtain ⟨v4, ev4, h⟩ := bd h
    obtain ⟨v5, ev5, h⟩ := bd h
    obtain ⟨v6, ev6, h⟩ := bd h
    obtain ⟨v7, ev7, h⟩ := bd h
    obtain ⟨M8, eM8, h⟩ := bd h
    have hB := e_pF hB eM8
    exact eX9_sendPart_L147 fu    a0 a1 a2 a4 a5 M8 hB h
  · have h := (if_neg hc).symm.trans h
    exact eX9_sendPart_L147 fu    a0 a1 a2 a4 a5 M hB h
theorem eX9_sendPart_L65 (fu : Nat) {out : Mm}   (a0 : Nat) (a1 : Option Nat) (a2 : Int32) (a4 : Int32) (a5 : Int32)  (M : Mm) (hB : Lst0 M) (h : fX9_sendPart_L65 fu  a0 a1 a2 a4 a5 M = some out) : Lst0 out := by
  unfold fX9_sendPart_L65 at h
  obtain ⟨v1, ev1, h⟩ := bd h
  by_cases hc : 0 ≤ (a2 - v1)
  · have h := (if_pos hc).symm.trans h
    obtain ⟨v2, ev2, h⟩ := bd h
    obtain ⟨v3, ev3, h⟩ := bd h
    obtain ⟨v4, ev4, h⟩ := bd h
    obtain ⟨q5, eq5, h⟩ := bd h
    obtain ⟨M6, eM6, h⟩ := bd h
    have hB := eX5_startTiming fu q5 a2 v4 M hB eM6
    exact eX9_sendPart_L113 fu    a0 a1 a2 a4 a5 M6 hB h
  · have h := (if_neg hc).symm.trans h
    obtain ⟨v7, ev7, h⟩ := bd h
    obtain ⟨v8, ev8, h⟩ := bd h
    obtain ⟨v9, ev9, h⟩ := bd h
    obtain ⟨M10, eM10, h⟩ := bd h
    have hB := e_pA hB eM10
    obtain ⟨v11, ev11, h⟩ := bd h
    obtain ⟨M12, eM12, h⟩ := bd h
    have hB := e_pZ hB eM12
    exact eX9_sendPart_L113 fu    a0 a1 a2 a4 a5 M12 hB h
theorem eX9_sendPart_L49 (fu : Nat) {out : Mm}   (a0 : Nat) (a1 : Option Nat) (a2 : Int32) (a3 : Int32) (a4 : Int32) (a5 : Int32)  (M : Mm) (hB : Lst0 M) (h : fX9_sendPart_L49 fu  a0 a1 a2 a3 a4 a5 M = some out) : Lst0 out := by
  unfold fX9_sendPart_L49 at h
  by_cases hc : a3 ≤ a4
  · have h := (if_pos hc).symm.trans h
    exact eX9_sendPart_L65 fu    a0 a1 a2 a4 a5 M hB h
  · have h := (if_neg hc).symm.trans h
    obtain ⟨q1, eq1, h⟩ := bd h
    obtain ⟨M2, eM2, h⟩ := bd h
    have hB := eX1_finGoes fu q1  M hB eM2
    exact eX9_sendPart_L65 fu    a0 a1 a2 a4 (a5 ||| (1 : Int32)) M2 hB h
theorem eX9_sendPart (fu : Nat) {out : Mm}   (a0 : Nat) (a1 : Option Nat) (a2 : Int32) (a3 : Int32)  (M : Mm) (hB : Lst0 M) (h : fX9_sendPart fu  a0 a1 a2 a3 M = some out) : Lst0 out := by
  unfold fX9_sendPart at h
  obtain ⟨q1, eq1, h⟩ := bd h
  obtain ⟨v3, M2, eM2, h⟩ := b2d h
  have hB := eX1_dataEnd fu q1  M hB eM2
  by_cases hc : a3 ≤ 0
  · have h := (if_pos hc).symm.trans h
    obtain rfl := Option.some.inj h
    exact hB
  · have h := (if_neg hc).symm.trans h
    by_cases hc : 0 ≤ (jmin a3 (v3 - a2))
    · have h := (if_pos hc).symm.trans h
      by_cases hc : (jmin a3 (v3 - a2)) ≤ 0
      · have h := (if_pos hc).symm.trans h
        exact eX9_sendPart_L49 fu    a0 a1 a2 a3 (jmin a3 (v3 - a2)) (16 : Int32) M2 hB h
      · have h := (if_neg hc).symm.trans h
        obtain ⟨q4, eq4, h⟩ := bd h
        obtain ⟨v6, M5, eM5, h⟩ := b2d h
        have hB := eX1_dataEnd fu q4  M2 hB eM5
        by_cases hc : (a2 + (jmin a3 (v3 - a2))) = v6
        · have h := (if_pos hc).symm.trans h
          exact eX9_sendPart_L49 fu    a0 a1 a2 a3 (jmin a3 (v3 - a2)) ((16 : Int32) ||| (8 : Int32)) M5 hB h
        · have h := (if_neg hc).symm.trans h
          exact eX9_sendPart_L49 fu    a0 a1 a2 a3 (jmin a3 (v3 - a2)) (16 : Int32) M5 hB h
    · have h := (if_neg hc).symm.trans h
      obtain rfl := Option.some.inj h
      exact hB
theorem eX9_isAcknowledged_L171 (fu : Nat) {out : Int32 × Mm}   (a1 : Option Nat)  (M : Mm) (hB : Lst0 M) (h : fX9_isAcknowledged_L171 fu  a1 M = some out) : Lst0 out.2 := by
  unfold fX9_isAcknowledged_L171 at h
  obtain ⟨v1, ev1, h⟩ := bd h
  by_cases hc : v1 = 0
  · have h := (if_pos hc).symm.trans h
    obtain ⟨hz, rfl⟩ := rN_some h
    exact hB
  · have h := (if_neg hc).symm.trans h
    obtain ⟨hz, rfl⟩ := rN_some h
    exact hB
theorem eX9_isAcknowledged_L140 (fu : Nat) {out : Int32 × Mm}   (a0 : Nat) (a1 : Option Nat)  (M : Mm) (hB : Lst0 M) (h : fX9_isAcknowledged_L140 fu  a0 a1 M = some out) : Lst0 out.2 := by
  unfold fX9_isAcknowledged_L140 at h
  obtain ⟨v1, ev1, h⟩ := bd h
  by_cases hc : v1 = 0
  · have h := (if_pos hc).symm.trans h
    exact eX9_isAcknowledged_L171 fu    a1 M hB h
  · have h := (if_neg hc).symm.trans h
    obtain ⟨v2, ev2, h⟩ := bd h
    obtain ⟨q3, eq3, h⟩ := bd h
    obtain ⟨v5, M4, eM4, h⟩ := b2d h
    have hB := eX1_dataEnd fu q3  M hB eM4
    by_cases hc : v2 = (v5 + (1 : Int32))
    · have h := (if_pos hc).symm.trans h
      obtain ⟨v6, ev6, h⟩ := bd h
      obtain ⟨v7, ev7, h⟩ := bd h
      obtain ⟨q8, eq8, h⟩ := bd h
      obtain ⟨M9, eM9, h⟩ := bd h
      have hB := eX1_finIsAcknowledged fu q8 v7 M4 hB eM9
      exact eX9_isAcknowledged_L171 fu    a1 M9 hB h
    · have h := (if_neg hc).symm.trans h
      exact eX9_isAcknowledged_L171 fu    a1 M4 hB h
theorem eX9_isAcknowledged_L125 (fu : Nat) {out : Int32 × Mm}   (a0 : Nat) (a1 : Option Nat)  (M : Mm) (hB : Lst0 M) (h : fX9_isAcknowledged_L125 fu  a0 a1 M = some out) : Lst0 out.2 := by
  unfold fX9_isAcknowledged_L125 at h
  obtain ⟨v1, ev1, h⟩ := bd h
  by_cases hc : v1 = 0
  · have h := (if_pos hc).symm.trans h
    obtain ⟨v2, ev2, h⟩ := bd h
    obtain ⟨M3, eM3, h⟩ := bd h
    have hB := e_pF hB eM3
    exact eX9_isAcknowledged_L140 fu    a0 a1 M3 hB h
  · have h := (if_neg hc).symm.trans h
    exact eX9_isAcknowledged_L140 fu    a0 a1 M hB h
theorem eX9_isAcknowledged_L91 (fu : Nat) {out : Int32 × Mm}   (a0 : Nat) (a1 : Option Nat)  (M : Mm) (hB : Lst0 M) (h : fX9_isAcknowledged_L91 fu  a0 a1 M = some out) : Lst0 out.2 := by
  unfold fX9_isAcknowledged_L91 at h
  obtain ⟨v1, ev1, h⟩ := bd h
  obtain ⟨v2, ev2, h⟩ := bd h
  obtain ⟨v3, ev3, h⟩ := bd h
  by_cases hc : (v2 - v3) < 0
  · have h := (if_pos hc).symm.trans h
    exact eX9_isAcknowledged_L140 fu    a0 a1 M hB h
  · have h := (if_neg hc).symm.trans h
    obtain ⟨v4, ev4, h⟩ := bd h
    obtain ⟨q5, eq5, h⟩ := bd h
    obtain ⟨v7, M6, eM6, h⟩ := b2d h
    have hB := eX1_isWindowNewer fu q5 v4 M hB eM6
    by_cases hc : v7 = 0
    · have h := (if_pos hc).symm.trans h
      exact eX9_isAcknowledged_L125 fu    a0 a1 M6 hB h
    · have h := (if_neg hc).symm.trans h
      obtain ⟨v8, ev8, h⟩ := bd h
      obtain ⟨q9, eq9, h⟩ := bd h
      obtain ⟨M10, eM10, h⟩ := bd h
      have hB := eX1_takeWindow fu q9 v8 M6 hB eM10
      exact eX9_isAcknowledged_L125 fu    a0 a1 M10 hB h
theorem eX9_isAcknowledged (fu : Nat) {out : Int32 × Mm}   (a0 : Nat) (a1 : Option Nat)  (M : Mm) (hB : Lst0 M) (h : fX9_isAcknowledged fu  a0 a1 M = some out) : Lst0 out.2 := by
  unfold fX9_isAcknowledged at h
  obtain ⟨v1, ev1, h⟩ := bd h
  obtain ⟨v2, ev2, h⟩ := bd h
  obtain ⟨v3, ev3, h⟩ := bd h
  by_cases hc : (v2 - v3) ≤ 0
  · have h := (if_pos hc).symm.trans h
    obtain ⟨v4, ev4, h⟩ := bd h
    obtain ⟨v5, ev5, h⟩ := bd h
    obtain ⟨v6, ev6, h⟩ := bd h
    by_cases hc : (v5 - v6) ≤ 0
    · have h := (if_pos hc).symm.trans h
      obtain ⟨q7, eq7, h⟩ := bd h
      obtain ⟨v9, M8, eM8, h⟩ := b2d h
      have hB := eX9_isDuplicate fu q7 a1 M hB eM8
      by_cases hc : v9 = 0
      · have h := (if_pos hc).symm.trans h
        exact eX9_isAcknowledged_L91 fu    a0 a1 M8 hB h
      · have h := (if_neg hc).symm.trans h
        obtain ⟨v10, ev10, h⟩ := bd h
        obtain ⟨v11, ev11, h⟩ := bd h
        obtain ⟨v12, ev12, h⟩ := bd h
        obtain ⟨q13, eq13, h⟩ := bd h
        obtain ⟨v15, M14, eM14, h⟩ := b2d h
        have hB := eX5_countDuplicate fu q13 (v11 - v12) M8 hB eM14
        by_cases hc : v15 = 0
        · have h := (if_pos hc).symm.trans h
          exact eX9_isAcknowledged_L91 fu    a0 a1 M14 hB h
        · have h := (if_neg hc).symm.trans h
          obtain ⟨v16, ev16, h⟩ := bd h
          obtain ⟨q17, eq17, h⟩ := bd h
          obtain ⟨v19, M18, eM18, h⟩ := b2d h
          have hB := eX1_goesAgain fu q17  M14 hB eM18
          obtain ⟨q20, eq20, h⟩ := bd h
          obtain ⟨M21, eM21, h⟩ := bd h
          have hB := eX9_sendPart fu q20 a1 v16 v19 M18 hB eM21
          exact eX9_isAcknowledged_L91 fu    a0 a1 M21 hB h
    · have h := (if_neg hc).symm.trans h
      obtain ⟨q22, eq22, h⟩ := bd h
      obtain ⟨M23, eM23, h⟩ := bd h
      have hB := eX9_takeNew fu q22 a1 M hB eM23
      exact eX9_isAcknowledged_L91 fu    a0 a1 M23 hB h
  · have h := (if_neg hc).symm.trans h
    obtain ⟨v24, ev24, h⟩ := bd h
    obtain ⟨q25, eq25, h⟩ := bd h
    obtain ⟨M26, eM26, h⟩ := bd h
    have hB := eX9_sendPlain fu q25 a1 v24 (16 : Int32) M hB eM26
    obtain ⟨hz, rfl⟩ := rN_some h
    exact hB
theorem eX9_takeData_L45 (fu : Nat) {out : Mm}   (a0 : Nat) (a1 : Option Nat)  (M : Mm) (hB : Lst0 M) (h : fX9_takeData_L45 fu  a0 a1 M = some out) : Lst0 out := by
  unfold fX9_takeData_L45 at h
  obtain ⟨v1, ev1, h⟩ := bd h
  obtain ⟨v2, ev2, h⟩ := bd h
  obtain ⟨q3, eq3, h⟩ := bd h
  obtain ⟨v5, M4, eM4, h⟩ := b2d h
  have hB := eX0_take fu q3 v2 M hB eM4
  by_cases hc : v5 = 0
  · have h := (if_pos hc).symm.trans h
    obtain rfl := Option.some.inj h
    exact hB
  · have h := (if_neg hc).symm.trans h
    obtain ⟨v6, ev6, h⟩ := bd h
    obtain ⟨v7, ev7, h⟩ := bd h
    obtain ⟨q8, eq8, h⟩ := bd h
    obtain ⟨M9, eM9, h⟩ := bd h
    have hB := eX1_otherSideEnds fu q8 v7 M4 hB eM9
    obtain rfl := Option.some.inj h
    exact hB
theorem eX9_takeData_L24 (fu : Nat) {out : Mm}   (a0 : Nat) (a1 : Option Nat)  (M : Mm) (hB : Lst0 M) (h : fX9_takeData_L24 fu  a0 a1 M = some out) : Lst0 out := by
  unfold fX9_takeData_L24 at h
  obtain ⟨v1, ev1, h⟩ := bd h
  obtain ⟨v2, ev2, h⟩ := bd h
  by_cases hc : v2 ≤ 0
  · have h := (if_pos hc).symm.trans h
    exact eX9_takeData_L45 fu    a0 a1 M hB h
  · have h := (if_neg hc).symm.trans h
    obtain ⟨v3, ev3, h⟩ := bd h
    obtain ⟨v4, ev4, h⟩ := bd h
    obtain ⟨M5, eM5, h⟩ := bd h
    have hB := e_pF hB eM5
    exact eX9_takeData_L45 fu    a0 a1 M5 hB h
theorem eX9_takeData (fu : Nat) {out : Mm}   (a0 : Nat) (a1 : Option Nat)  (M : Mm) (hB : Lst0 M) (h : fX9_takeData fu  a0 a1 M = some out) : Lst0 out := by
  unfold fX9_takeData at h
  obtain ⟨v1, ev1, h⟩ := bd h
  by_cases hc : v1 = (2 : Int32)
  · have h := (if_pos hc).symm.trans h
    exact eX9_takeData_L24 fu    a0 a1 M hB h
  · have h := (if_neg hc).symm.trans h
    obtain ⟨v2, ev2, h⟩ := bd h
    by_cases hc : v2 = (3 : Int32)
    · have h := (if_pos hc).symm.trans h
      exact eX9_takeData_L24 fu    a0 a1 M hB h
    · have h := (if_neg hc).symm.trans h
      obtain ⟨v3, ev3, h⟩ := bd h
      by_cases hc : v3 = (4 : Int32)
      · have h := (if_pos hc).symm.trans h
        exact eX9_takeData_L24 fu    a0 a1 M hB h
      · have h := (if_neg hc).symm.trans h
        obtain ⟨v4, ev4, h⟩ := bd h
        by_cases hc : v4 = (6 : Int32)
        · have h := (if_pos hc).symm.trans h
          obtain ⟨v5, ev5, h⟩ := bd h
          obtain ⟨q6, eq6, h⟩ := bd h
          obtain ⟨v8, M7, eM7, h⟩ := b2d h
          have hB := eX3_has fu q6 (1 : Int32) M hB eM7
          by_cases hc : v8 = 0
          · have h := (if_pos hc).symm.trans h
            obtain rfl := Option.some.inj h
            exact hB
          · have h := (if_neg hc).symm.trans h
            obtain ⟨v9, ev9, h⟩ := bd h
            obtain ⟨v10, ev10, h⟩ := bd h
            obtain ⟨q11, eq11, h⟩ := bd h
            obtain ⟨M12, eM12, h⟩ := bd h
            have hB := eX1_linger fu q11 v10 M7 hB eM12
            obtain rfl := Option.some.inj h
            exact hB
        · have h := (if_neg hc).symm.trans h
          obtain rfl := Option.some.inj h
          exact hB
theorem eX9_take_L117 (fu : Nat) {out : Option Nat × Mm}   (a0 : Nat) (a1 : Option Nat)  (M : Mm) (hB : Lst0 M) (h : fX9_take_L117 fu  a0 a1 M = some out) : Lst0 out.2 := by
  unfold fX9_take_L117 at h
  obtain ⟨q1, eq1, h⟩ := bd h
  obtain ⟨M2, eM2, h⟩ := bd h
  have hB := eX9_takeData fu q1 a1 M hB eM2
  obtain rfl := Option.some.inj h
  exact hB
theorem eX9_take (fu : Nat) {out : Option Nat × Mm}   (a0 : Nat)  (M : Mm) (hB : Lst0 M) (h : fX9_take fu  a0 M = some out) : Lst0 out.2 := by
  unfold fX9_take at h
  obtain ⟨q1, eq1, h⟩ := bd h
  obtain ⟨v3, M2, eM2, h⟩ := b2d h
  have hB := eX9_connectionOfSegment fu q1  M hB eM2
  by_cases hc : v3 = none
  · have h := (if_pos hc).symm.trans h
    obtain ⟨q36, eq36, h⟩ := bd h
    obtain ⟨M37, eM37, h⟩ := bd h
    have hB := eX9_takeWithoutConnection fu q36  M2 hB eM37
    obtain rfl := Option.some.inj h
    exact hB
  · have h := (if_neg hc).symm.trans h
    obtain ⟨v4, ev4, h⟩ := bd h
    obtain ⟨v5, ev5, h⟩ := bd h
    obtain ⟨q6, eq6, h⟩ := bd h
    obtain ⟨v8, M7, eM7, h⟩ := b2d h
    have hB := eX0_accepts fu q6 v5 M2 hB eM7
    by_cases hc : v8 = 0
    · have h := (if_pos hc).symm.trans h
      obtain ⟨q34, eq34, h⟩ := bd h
      obtain ⟨M35, eM35, h⟩ := bd h
      have hB := eX9_refuse fu q34 v3 M7 hB eM35
      obtain rfl := Option.some.inj h
      exact hB
    · have h := (if_neg hc).symm.trans h
      obtain ⟨v9, ev9, h⟩ := bd h
      obtain ⟨q10, eq10, h⟩ := bd h
      obtain ⟨v12, M11, eM11, h⟩ := b2d h
      have hB := eX3_has fu q10 (4 : Int32) M7 hB eM11
      by_cases hc : v12 = 0
      · have h := (if_pos hc).symm.trans h
        obtain ⟨v13, ev13, h⟩ := bd h
        obtain ⟨q14, eq14, h⟩ := bd h
        obtain ⟨v16, M15, eM15, h⟩ := b2d h
        have hB := eX3_has fu q14 (2 : Int32) M11 hB eM15
        by_cases hc : v16 = 0
        · have h := (if_pos hc).symm.trans h
          obtain ⟨v17, ev17, h⟩ := bd h
          obtain ⟨q18, eq18, h⟩ := bd h
          obtain ⟨v20, M19, eM19, h⟩ := b2d h
          have hB := eX3_has fu q18 (16 : Int32) M15 hB eM19
          by_cases hc : v20 = 0
          · have h := (if_pos hc).symm.trans h
            obtain rfl := Option.some.inj h
            exact hB
          · have h := (if_neg hc).symm.trans h
            obtain ⟨v21, ev21, h⟩ := bd h
            by_cases hc : v21 = (1 : Int32)
            · have h := (if_pos hc).symm.trans h
              obtain ⟨q25, eq25, h⟩ := bd h
              obtain ⟨v27, M26, eM26, h⟩ := b2d h
              have hB := eX9_isOpened fu q25 v3 M19 hB eM26
              by_cases hc : v27 = 0
              · have h := (if_pos hc).symm.trans h
                obtain rfl := Option.some.inj h
                exact hB
              · have h := (if_neg hc).symm.trans h
                exact eX9_take_L117 fu    a0 v3 M26 hB h
            · have h := (if_neg hc).symm.trans h
              obtain ⟨q22, eq22, h⟩ := bd h
              obtain ⟨v24, M23, eM23, h⟩ := b2d h
              have hB := eX9_isAcknowledged fu q22 v3 M19 hB eM23
              by_cases hc : v24 = 0
              · have h := (if_pos hc).symm.trans h
                obtain rfl := Option.some.inj h
                exact hB
              · have h := (if_neg hc).symm.trans h
                exact eX9_take_L117 fu    a0 v3 M23 hB h
        · have h := (if_neg hc).symm.trans h
          obtain ⟨q28, eq28, h⟩ := bd h
          obtain ⟨M29, eM29, h⟩ := bd h
          have hB := eX9_reset fu q28  M15 hB eM29
          obtain ⟨q30, eq30, h⟩ := bd h
          obtain ⟨M31, eM31, h⟩ := bd h
          have hB := eX1_leave fu q30  M29 hB eM31
          obtain rfl := Option.some.inj h
          exact hB
      · have h := (if_neg hc).symm.trans h
        obtain ⟨q32, eq32, h⟩ := bd h
        obtain ⟨M33, eM33, h⟩ := bd h
        have hB := eX1_leave fu q32  M11 hB eM33
        obtain rfl := Option.some.inj h
        exact hB
theorem eX9_sendWhatMay_L53 (fu : Nat) {out : Mm}   (a0 : Nat) (a1 : Option Nat)  (M : Mm) (hB : Lst0 M) (h : fX9_sendWhatMay_L53 fu  a0 a1 M = some out) : Lst0 out := by
  unfold fX9_sendWhatMay_L53 at h
  obtain ⟨q1, eq1, h⟩ := bd h
  obtain ⟨v3, M2, eM2, h⟩ := b2d h
  have hB := eX1_left fu q1  M hB eM2
  by_cases hc : v3 ≤ 0
  · have h := (if_pos hc).symm.trans h
    obtain rfl := Option.some.inj h
    exact hB
  · have h := (if_neg hc).symm.trans h
    obtain ⟨v4, ev4, h⟩ := bd h
    obtain ⟨v5, ev5, h⟩ := bd h
    by_cases hc : v4 = v5
    · have h := (if_pos hc).symm.trans h
      obtain ⟨v6, ev6, h⟩ := bd h
      by_cases hc : v6 = 0
      · have h := (if_pos hc).symm.trans h
        obtain ⟨v7, ev7, h⟩ := bd h
        obtain ⟨v8, ev8, h⟩ := bd h
        by_cases hc : v8 = (2147483647 : Int32)
        · have h := (if_pos hc).symm.trans h
          obtain ⟨v9, ev9, h⟩ := bd h
          obtain ⟨v10, ev10, h⟩ := bd h
          obtain ⟨v11, ev11, h⟩ := bd h
          obtain ⟨v12, ev12, h⟩ := bd h
          obtain ⟨v13, ev13, h⟩ := bd h
          obtain ⟨M14, eM14, h⟩ := bd h
          have hB := e_pF hB eM14
          obtain rfl := Option.some.inj h
          exact hB
        · have h := (if_neg hc).symm.trans h
          obtain rfl := Option.some.inj h
          exact hB
      · have h := (if_neg hc).symm.trans h
        obtain rfl := Option.some.inj h
        exact hB
    · have h := (if_neg hc).symm.trans h
      obtain rfl := Option.some.inj h
      exact hB
theorem eX9_sendWhatMay_L10 (fu : Nat) {out : Mm}   : ∀ (n : Nat) (a0 : Nat) (a1 : Option Nat) (a2 : Int32)  (M : Mm), Lst0 M → fX9_sendWhatMay_L10 fu  n a0 a1 a2 M = some out → Lst0 out := by
  intro n
  induction n with
  | zero =>
    intro a0 a1 a2 M hB h
    have h : (none : Option (Mm)) = some out := h
    cases h
  | succ n ih =>
    intro a0 a1 a2 M hB h
    rw [fX9_sendWhatMay_L10] at h
    by_cases hc : (1000000 : Int32) ≤ a2
    · have h := (if_pos hc).symm.trans h
      exact eX9_sendWhatMay_L53 fu    a0 a1 M hB h
    · have h := (if_neg hc).symm.trans h
      obtain ⟨q1, eq1, h⟩ := bd h
      obtain ⟨v3, M2, eM2, h⟩ := b2d h
      have hB := eX1_mayGo fu q1  M hB eM2
      by_cases hc : 0 < v3
      · have h := (if_pos hc).symm.trans h
        obtain ⟨v4, ev4, h⟩ := bd h
        obtain ⟨q5, eq5, h⟩ := bd h
        obtain ⟨M6, eM6, h⟩ := bd h
        have hB := eX9_sendPart fu q5 a1 v4 v3 M2 hB eM6
        obtain ⟨q7, eq7, h⟩ := bd h
        obtain ⟨M8, eM8, h⟩ := bd h
        have hB := eX1_advance fu q7 v3 M6 hB eM8
        exact ih a0 a1 (a2 + (1 : Int32)) M8 hB h
      · have h := (if_neg hc).symm.trans h
        exact eX9_sendWhatMay_L53 fu    a0 a1 M2 hB h
theorem eX9_sendWhatMay (fu : Nat) {out : Mm}   (a0 : Nat) (a1 : Option Nat)  (M : Mm) (hB : Lst0 M) (h : fX9_sendWhatMay fu  a0 a1 M = some out) : Lst0 out := by
  unfold fX9_sendWhatMay at h
  obtain ⟨v1, ev1, h⟩ := bd h
  by_cases hc : v1 = 0
  · have h := (if_pos hc).symm.trans h
    obtain rfl := Option.some.inj h
    exact hB
  · have h := (if_neg hc).symm.trans h
    exact eX9_sendWhatMay_L10 fu   fu a0 a1 (0 : Int32) M hB h
theorem eX9_sendAllDue (fu : Nat) {out : Mm}   (a0 : Nat) (a1 : Option Nat)  (M : Mm) (hB : Lst0 M) (h : fX9_sendAllDue fu  a0 a1 M = some out) : Lst0 out := by
  unfold fX9_sendAllDue at h
  obtain ⟨q1, eq1, h⟩ := bd h
  obtain ⟨M2, eM2, h⟩ := bd h
  have hB := eX9_sendWhatMay fu q1 a1 M hB eM2
  obtain ⟨v3, ev3, h⟩ := bd h
  obtain ⟨v4, ev4, h⟩ := bd h
  by_cases hc : v4 = 0
  · have h := (if_pos hc).symm.trans h
    obtain rfl := Option.some.inj h
    exact hB
  · have h := (if_neg hc).symm.trans h
    obtain ⟨v5, ev5, h⟩ := bd h
    obtain ⟨q6, eq6, h⟩ := bd h
    obtain ⟨M7, eM7, h⟩ := bd h
    have hB := eX9_sendPlain fu q6 a1 v5 (16 : Int32) M2 hB eM7
    obtain rfl := Option.some.inj h
    exact hB
theorem eX9_runOut_L185 (fu : Nat) {out : Mm}   (a0 : Nat) (a1 : Option Nat) (s0 : Int32) (M : Mm) (hB : Lst0 M) (h : fX9_runOut_L185 fu  a0 a1 s0 M = some out) : Lst0 out := by
  unfold fX9_runOut_L185 at h
  obtain ⟨v1, ev1, h⟩ := bd h
  obtain ⟨q2, eq2, h⟩ := bd h
  obtain ⟨M3, eM3, h⟩ := bd h
  have hB := eX9_sendPart fu q2 a1 v1 s0 M hB eM3
  obtain ⟨q4, eq4, h⟩ := bd h
  obtain ⟨M5, eM5, h⟩ := bd h
  have hB := eX1_advance fu q4 s0 M3 hB eM5
  obtain rfl := Option.some.inj h
  exact hB
theorem eX9_runOut_L96 (fu : Nat) {out : Mm}   (a0 : Nat) (a1 : Option Nat) (a2 : Int32)  (M : Mm) (hB : Lst0 M) (h : fX9_runOut_L96 fu  a0 a1 a2 M = some out) : Lst0 out := by
  unfold fX9_runOut_L96 at h
  obtain ⟨v1, ev1, h⟩ := bd h
  obtain ⟨q2, eq2, h⟩ := bd h
  obtain ⟨M3, eM3, h⟩ := bd h
  have hB := eX5_backOff fu q2  M hB eM3
  obtain ⟨v4, ev4, h⟩ := bd h
  obtain ⟨v5, ev5, h⟩ := bd h
  obtain ⟨v6, ev6, h⟩ := bd h
  obtain ⟨v7, ev7, h⟩ := bd h
  obtain ⟨v8, ev8, h⟩ := bd h
  obtain ⟨M9, eM9, h⟩ := bd h
  have hB := e_pF hB eM9
  by_cases hc : a2 = 0
  · have h := (if_pos hc).symm.trans h
    obtain ⟨v10, ev10, h⟩ := bd h
    obtain ⟨M11, eM11, h⟩ := bd h
    have hB := e_pF hB eM11
    obtain ⟨v12, ev12, h⟩ := bd h
    by_cases hc : v12 = 0
    · have h := (if_pos hc).symm.trans h
      exact eX9_runOut_L185 fu    a0 a1 (1 : Int32) M11 hB h
    · have h := (if_neg hc).symm.trans h
      obtain ⟨q13, eq13, h⟩ := bd h
      obtain ⟨v15, M14, eM14, h⟩ := b2d h
      have hB := eX1_mayGo fu q13  M11 hB eM14
      exact eX9_runOut_L185 fu    a0 a1 v15 M14 hB h
  · have h := (if_neg hc).symm.trans h
    obtain ⟨v16, ev16, h⟩ := bd h
    obtain ⟨v17, ev17, h⟩ := bd h
    obtain ⟨v18, ev18, h⟩ := bd h
    obtain ⟨M19, eM19, h⟩ := bd h
    have hB := e_pA hB eM19
    obtain ⟨v20, ev20, h⟩ := bd h
    obtain ⟨M21, eM21, h⟩ := bd h
    have hB := e_pZ hB eM21
    obtain ⟨v22, ev22, h⟩ := bd h
    obtain ⟨q23, eq23, h⟩ := bd h
    obtain ⟨M24, eM24, h⟩ := bd h
    have hB := eX9_sendPlain fu q23 a1 v22 (18 : Int32) M21 hB eM24
    obtain rfl := Option.some.inj h
    exact hB
theorem eX9_runOut_L44 (fu : Nat) {out : Mm}   (a0 : Nat) (a1 : Option Nat) (a2 : Int32) (s0 : Int32) (s1 : Int32) (M : Mm) (hB : Lst0 M) (h : fX9_runOut_L44 fu  a0 a1 a2 s0 s1 M = some out) : Lst0 out := by
  unfold fX9_runOut_L44 at h
  by_cases hc : s0 ≤ s1
  · have h := (if_pos hc).symm.trans h
    by_cases hc : a2 = 0
    · have h := (if_pos hc).symm.trans h
      obtain ⟨v1, ev1, h⟩ := bd h
      obtain ⟨v2, ev2, h⟩ := bd h
      obtain ⟨v3, ev3, h⟩ := bd h
      obtain ⟨q4, eq4, h⟩ := bd h
      obtain ⟨M5, eM5, h⟩ := bd h
      have hB := eX5_lowerThreshold fu q4 (v2 - v3) M hB eM5
      exact eX9_runOut_L96 fu    a0 a1 a2 M5 hB h
    · have h := (if_neg hc).symm.trans h
      exact eX9_runOut_L96 fu    a0 a1 a2 M hB h
  · have h := (if_neg hc).symm.trans h
    obtain ⟨v6, ev6, h⟩ := bd h
    obtain ⟨v7, ev7, h⟩ := bd h
    obtain ⟨v8, ev8, h⟩ := bd h
    obtain ⟨M9, eM9, h⟩ := bd h
    have hB := e_pA hB eM9
    obtain ⟨v10, ev10, h⟩ := bd h
    obtain ⟨q11, eq11, h⟩ := bd h
    obtain ⟨M12, eM12, h⟩ := bd h
    have hB := eX9_sendPlain fu q11 a1 v10 (20 : Int32) M9 hB eM12
    obtain ⟨q13, eq13, h⟩ := bd h
    obtain ⟨M14, eM14, h⟩ := bd h
    have hB := eX1_leave fu q13  M12 hB eM14
    obtain rfl := Option.some.inj h
    exact hB
theorem eX9_runOut_L13 (fu : Nat) {out : Mm}   (a0 : Nat) (a1 : Option Nat) (s0 : Int32) (M : Mm) (hB : Lst0 M) (h : fX9_runOut_L13 fu  a0 a1 s0 M = some out) : Lst0 out := by
  unfold fX9_runOut_L13 at h
  obtain ⟨v1, ev1, h⟩ := bd h
  obtain ⟨v2, ev2, h⟩ := bd h
  obtain ⟨M3, eM3, h⟩ := bd h
  have hB := e_pF hB eM3
  obtain ⟨v4, ev4, h⟩ := bd h
  obtain ⟨v5, ev5, h⟩ := bd h
  by_cases hc : s0 = 0
  · have h := (if_pos hc).symm.trans h
    exact eX9_runOut_L44 fu    a0 a1 s0 v5 (8 : Int32) M3 hB h
  · have h := (if_neg hc).symm.trans h
    exact eX9_runOut_L44 fu    a0 a1 s0 v5 (5 : Int32) M3 hB h
theorem eX9_runOut (fu : Nat) {out : Mm}   (a0 : Nat) (a1 : Option Nat)  (M : Mm) (hB : Lst0 M) (h : fX9_runOut fu  a0 a1 M = some out) : Lst0 out := by
  unfold fX9_runOut at h
  obtain ⟨v1, ev1, h⟩ := bd h
  by_cases hc : v1 = (1 : Int32)
  · have h := (if_pos hc).symm.trans h
    exact eX9_runOut_L13 fu    a0 a1 (1 : Int32) M hB h
  · have h := (if_neg hc).symm.trans h
    exact eX9_runOut_L13 fu    a0 a1 (0 : Int32) M hB h
theorem eX10_init (fu : Nat) {out : Mm}   (a0 : Nat)  (M : Mm) (hB : Lst0 M) (h : fX10_init fu  a0 M = some out) : Lst0 out := by
  unfold fX10_init at h
  obtain ⟨v1, M2, eM2, h⟩ := b2d h
  have hB := e_mkA (by decide) eM2
  obtain ⟨M3, eM3, h⟩ := bd h
  have hB := e_pG hB eM3
  obtain ⟨v4, M5, eM5, h⟩ := b2d h
  have hB := e_mkA (by decide) eM5
  obtain ⟨M6, eM6, h⟩ := bd h
  have hB := e_pG hB eM6
  obtain rfl := Option.some.inj h
  exact hB
theorem eX10_restart (fu : Nat) {out : Mm}   (a0 : Nat)  (M : Mm) (hB : Lst0 M) (h : fX10_restart fu  a0 M = some out) : Lst0 out := by
  unfold fX10_restart at h
  obtain ⟨v1, ev1, h⟩ := bd h
  obtain ⟨M2, eM2, h⟩ := bd h
  have hB := eJ7_fill_53178 fu  v1 (0 : Int32) M hB eM2
  obtain ⟨M3, eM3, h⟩ := bd h
  have hB := e_pF hB eM3
  obtain ⟨M4, eM4, h⟩ := bd h
  have hB := e_pF hB eM4
  obtain ⟨M5, eM5, h⟩ := bd h
  have hB := e_pF hB eM5
  obtain rfl := Option.some.inj h
  exact hB
theorem eX10_back (fu : Nat) {out : Option Nat × Mm}   (a0 : Nat) (a1 : Int32)  (M : Mm) (hB : Lst0 M) (h : fX10_back fu  a0 a1 M = some out) : Lst0 out.2 := by
  unfold fX10_back at h
  by_cases hc : a1 < 0
  · have h := (if_pos hc).symm.trans h
    obtain rfl := Option.some.inj h
    exact hB
  · have h := (if_neg hc).symm.trans h
    by_cases hc : (32 : Int32) ≤ a1
    · have h := (if_pos hc).symm.trans h
      obtain rfl := Option.some.inj h
      exact hB
    · have h := (if_neg hc).symm.trans h
      obtain ⟨v1, ev1, h⟩ := bd h
      by_cases hc : a1 < v1
      · have h := (if_pos hc).symm.trans h
        obtain ⟨v2, ev2, h⟩ := bd h
        obtain ⟨v3, ev3, h⟩ := bd h
        obtain ⟨v4, ev4, h⟩ := bd h
        obtain rfl := Option.some.inj h
        exact hB
      · have h := (if_neg hc).symm.trans h
        obtain rfl := Option.some.inj h
        exact hB
theorem eX11_feed_L55 (fu : Nat) {out : Int32 × Mm}   (a0 : Nat) (a1 : Int32) (a2 : Int32) (a3 : Int32) (a4 : Int32) (a5 : Int32)  (M : Mm) (hB : Lst0 M) (h : fX11_feed_L55 fu  a0 a1 a2 a3 a4 a5 M = some out) : Lst0 out.2 := by
  unfold fX11_feed_L55 at h
  obtain ⟨v1, ev1, h⟩ := bd h
  obtain ⟨v2, ev2, h⟩ := bd h
  obtain ⟨M3, eM3, h⟩ := bd h
  have hB := eX11_putFour fu  v1 v2 a1 M hB eM3
  obtain ⟨v4, ev4, h⟩ := bd h
  obtain ⟨v5, ev5, h⟩ := bd h
  obtain ⟨M6, eM6, h⟩ := bd h
  have hB := eX11_putFour fu  v4 (v5 + (4 : Int32)) a2 M3 hB eM6
  obtain ⟨v7, ev7, h⟩ := bd h
  obtain ⟨v8, ev8, h⟩ := bd h
  obtain ⟨M9, eM9, h⟩ := bd h
  have hB := eX11_putFour fu  v7 (v8 + (8 : Int32)) a3 M6 hB eM9
  obtain ⟨v10, ev10, h⟩ := bd h
  obtain ⟨v11, ev11, h⟩ := bd h
  obtain ⟨M12, eM12, h⟩ := bd h
  have hB := eX11_putFour fu  v10 (v11 + (12 : Int32)) a4 M9 hB eM12
  obtain ⟨v13, ev13, h⟩ := bd h
  obtain ⟨v14, ev14, h⟩ := bd h
  obtain ⟨M15, eM15, h⟩ := bd h
  have hB := eX11_putFour fu  v13 (v14 + (16 : Int32)) a5 M12 hB eM15
  obtain ⟨v16, ev16, h⟩ := bd h
  obtain ⟨M17, eM17, h⟩ := bd h
  have hB := e_pF hB eM17
  obtain ⟨v18, ev18, h⟩ := bd h
  obtain rfl := Option.some.inj h
  exact hB
theorem eX11_feed (fu : Nat) {out : Int32 × Mm}   (a0 : Nat) (a1 : Int32) (a2 : Int32) (a3 : Int32) (a4 : Int32) (a5 : Int32)  (M : Mm) (hB : Lst0 M) (h : fX11_feed fu  a0 a1 a2 a3 a4 a5 M = some out) : Lst0 out.2 := by
  unfold fX11_feed at h
  obtain ⟨v1, ev1, h⟩ := bd h
  by_cases hc : (v1 + (20 : Int32)) ≤ (65540 : Int32)
  · have h := (if_pos hc).symm.trans h
    obtain ⟨v2, ev2, h⟩ := bd h
    obtain ⟨v3, ev3, h⟩ := bd h
    obtain ⟨v4, ev4, h⟩ := bd h
    by_cases hc : (v2 + (20 : Int32)) ≤ v4
    · have h := (if_pos hc).symm.trans h
      exact eX11_feed_L55 fu    a0 a1 a2 a3 a4 a5 M hB h
    · have h := (if_neg hc).symm.trans h
      obtain ⟨v5, ev5, h⟩ := bd h
      obtain ⟨v6, ev6, h⟩ := bd h
      obtain ⟨v7, ev7, h⟩ := bd h
      obtain ⟨v9, M8, eM8, h⟩ := b2d h
      have hB := eJ7_copyOf_9075b fu  v5 (jmin (((2 : Int32) * v7) + (20 : Int32)) (65540 : Int32)) M hB eM8
      obtain ⟨M10, eM10, h⟩ := bd h
      have hB := e_pG hB eM10
      exact eX11_feed_L55 fu    a0 a1 a2 a3 a4 a5 M10 hB h
  · have h := (if_neg hc).symm.trans h
    obtain rfl := Option.some.inj h
    exact hB
theorem eX11_end (fu : Nat) {out : Int32 × Mm}   (a0 : Nat) (a1 : Int32)  (M : Mm) (hB : Lst0 M) (h : fX11_end fu  a0 a1 M = some out) : Lst0 out.2 := by
  unfold fX11_end at h
  by_cases hc : a1 < 0
  · have h := (if_pos hc).symm.trans h
    obtain rfl := Option.some.inj h
    exact hB
  · have h := (if_neg hc).symm.trans h
    obtain ⟨v1, ev1, h⟩ := bd h
    by_cases hc : a1 ≤ v1
    · have h := (if_pos hc).symm.trans h
      obtain ⟨M2, eM2, h⟩ := bd h
      have hB := e_pF hB eM2
      obtain rfl := Option.some.inj h
      exact hB
    · have h := (if_neg hc).symm.trans h
      obtain rfl := Option.some.inj h
      exact hB
theorem eX11_install (fu : Nat) {out : Int32 × Mm}   (a0 : Nat)  (M : Mm) (hB : Lst0 M) (h : fX11_install fu  a0 M = some out) : Lst0 out.2 := by
  unfold fX11_install at h
  obtain ⟨v1, ev1, h⟩ := bd h
  by_cases hc : v1 ≤ (65535 : Int32)
  · have h := (if_pos hc).symm.trans h
    obtain ⟨v2, ev2, h⟩ := bd h
    obtain ⟨v3, ev3, h⟩ := bd h
    obtain ⟨v4, ev4, h⟩ := bd h
    obtain ⟨q5, eq5, h⟩ := bd h
    obtain ⟨M6, eM6, h⟩ := bd h
    have hB := eX8_keep fu q5 v4 v2 M hB eM6
    obtain ⟨M7, eM7, h⟩ := bd h
    have hB := e_pF hB eM7
    obtain ⟨M8, eM8, h⟩ := bd h
    have hB := e_pZ hB eM8
    obtain rfl := Option.some.inj h
    exact hB
  · have h := (if_neg hc).symm.trans h
    obtain rfl := Option.some.inj h
    exact hB
theorem eX11_boot (fu : Nat) {out : Int32 × Mm}   (a0 : Nat) (a1 : Int32) (a2 : Int32) (a3 : Int32) (a4 : Int32) (a5 : Int32)  (M : Mm) (hB : Lst0 M) (h : fX11_boot fu  a0 a1 a2 a3 a4 a5 M = some out) : Lst0 out.2 := by
  unfold fX11_boot at h
  by_cases hc : a2 < (8 : Int32)
  · have h := (if_pos hc).symm.trans h
    obtain rfl := Option.some.inj h
    exact hB
  · have h := (if_neg hc).symm.trans h
    by_cases hc : (30 : Int32) < a2
    · have h := (if_pos hc).symm.trans h
      obtain rfl := Option.some.inj h
      exact hB
    · have h := (if_neg hc).symm.trans h
      obtain ⟨v2, M1, eM1, h⟩ := b2d h
      have hB := eX11_isHostNumber fu  a1 M hB eM1
      by_cases hc : v2 = 0
      · have h := (if_pos hc).symm.trans h
        obtain rfl := Option.some.inj h
        exact hB
      · have h := (if_neg hc).symm.trans h
        obtain ⟨v3, ev3, h⟩ := bd h
        by_cases hc : ((a1 ^^^ a3) &&& v3) = 0
        · have h := (if_pos hc).symm.trans h
          by_cases hc : a3 = a1
          · have h := (if_pos hc).symm.trans h
            obtain rfl := Option.some.inj h
            exact hB
          · have h := (if_neg hc).symm.trans h
            by_cases hc : (a4 &&& (256 : Int32)) = 0
            · have h := (if_pos hc).symm.trans h
              obtain ⟨v4, ev4, h⟩ := bd h
              obtain ⟨q5, eq5, h⟩ := bd h
              obtain ⟨v7, M6, eM6, h⟩ := b2d h
              have hB := eX8_isRight fu q5  M1 hB eM6
              by_cases hc : v7 = 0
              · have h := (if_pos hc).symm.trans h
                obtain rfl := Option.some.inj h
                exact hB
              · have h := (if_neg hc).symm.trans h
                obtain ⟨v8, ev8, h⟩ := bd h
                obtain ⟨q9, eq9, h⟩ := bd h
                obtain ⟨M10, eM10, h⟩ := bd h
                have hB := eX8_keepEntries fu q9  M6 hB eM10
                obtain ⟨v11, ev11, h⟩ := bd h
                obtain ⟨q12, eq12, h⟩ := bd h
                obtain ⟨M13, eM13, h⟩ := bd h
                have hB := eX10_restart fu q12  M10 hB eM13
                obtain ⟨v14, ev14, h⟩ := bd h
                obtain ⟨q15, eq15, h⟩ := bd h
                obtain ⟨M16, eM16, h⟩ := bd h
                have hB := eX4_restart fu q15 a1 v3 a3 (a4 &&& (65535 : Int32)) a5 M13 hB eM16
                obtain ⟨v17, ev17, h⟩ := bd h
                obtain ⟨q18, eq18, h⟩ := bd h
                obtain ⟨M19, eM19, h⟩ := bd h
                have hB := eX3_restart fu q18  M16 hB eM19
                obtain ⟨v20, ev20, h⟩ := bd h
                obtain ⟨q21, eq21, h⟩ := bd h
                obtain ⟨M22, eM22, h⟩ := bd h
                have hB := eX9_restart fu q21  M19 hB eM22
                obtain ⟨M23, eM23, h⟩ := bd h
                have hB := e_pZ hB eM23
                obtain ⟨v24, ev24, h⟩ := bd h
                obtain ⟨v25, ev25, h⟩ := bd h
                obtain rfl := Option.some.inj h
                exact hB
            · have h := (if_neg hc).symm.trans h
              obtain rfl := Option.some.inj h
              exact hB
        · have h := (if_neg hc).symm.trans h
          obtain rfl := Option.some.inj h
          exact hB
theorem eX11_refusal (fu : Nat) {out : Int32 × Mm}   (a0 : Nat) (a1 : Int32)  (M : Mm) (hB : Lst0 M) (h : fX11_refusal fu  a0 a1 M = some out) : Lst0 out.2 := by
  unfold fX11_refusal at h
  obtain ⟨v1, ev1, h⟩ := bd h
  by_cases hc : v1 = 0
  · have h := (if_pos hc).symm.trans h
    obtain rfl := Option.some.inj h
    exact hB
  · have h := (if_neg hc).symm.trans h
    obtain ⟨v2, ev2, h⟩ := bd h
    obtain ⟨v3, ev3, h⟩ := bd h
    by_cases hc : a1 < v3
    · have h := (if_pos hc).symm.trans h
      obtain rfl := Option.some.inj h
      exact hB
    · have h := (if_neg hc).symm.trans h
      by_cases hc : (2000000000 : Int32) < a1
      · have h := (if_pos hc).symm.trans h
        obtain rfl := Option.some.inj h
        exact hB
      · have h := (if_neg hc).symm.trans h
        obtain ⟨v4, ev4, h⟩ := bd h
        obtain ⟨v5, ev5, h⟩ := bd h
        by_cases hc : (a1 - v5) ≤ (600000 : Int32)
        · have h := (if_pos hc).symm.trans h
          obtain rfl := Option.some.inj h
          exact hB
        · have h := (if_neg hc).symm.trans h
          obtain rfl := Option.some.inj h
          exact hB
theorem eX11_goOn_L133 (fu : Nat) {out : Mm} (k2 : Nat → Int32 → Int32 → Mm → Option (Mm)) (hk2 : ∀ (b0 : Nat) (b1 : Int32) (b2 : Int32)  (M : Mm), Lst0 M → k2 b0 b1 b2 M = some out → Lst0 out) (a0 : Nat) (a1 : Int32) (a2 : Int32)  (M : Mm) (hB : Lst0 M) (h : fX11_goOn_L133 fu k2 a0 a1 a2 M = some out) : Lst0 out := by
  unfold fX11_goOn_L133 at h
  exact hk2 a0 a1 (a2 + (1 : Int32)) M hB h
theorem eX11_goOn_L2 (fu : Nat) {out : Mm}   : ∀ (n : Nat) (a0 : Nat) (a1 : Int32) (a2 : Int32)  (M : Mm), Lst0 M → fX11_goOn_L2 fu  n a0 a1 a2 M = some out → Lst0 out := by
  intro n
  induction n with
  | zero =>
    intro a0 a1 a2 M hB h
    have h : (none : Option (Mm)) = some out := h
    cases h
  | succ n ih =>
    intro a0 a1 a2 M hB h
    rw [fX11_goOn_L2] at h
    by_cases hc : (1000000 : Int32) ≤ a2
    · have h := (if_pos hc).symm.trans h
      obtain ⟨v1, ev1, h⟩ := bd h
      obtain ⟨M2, eM2, h⟩ := bd h
      have hB := e_pF hB eM2
      obtain rfl := Option.some.inj h
      exact hB
    · have h := (if_neg hc).symm.trans h
      obtain ⟨v3, ev3, h⟩ := bd h
      obtain ⟨q4, eq4, h⟩ := bd h
      obtain ⟨v6, M5, eM5, h⟩ := b2d h
      have hB := eX4_earliest fu q4  M hB eM5
      obtain ⟨v7, ev7, h⟩ := bd h
      obtain ⟨q8, eq8, h⟩ := bd h
      obtain ⟨v10, M9, eM9, h⟩ := b2d h
      have hB := eX3_earliest fu q8  M5 hB eM9
      obtain ⟨v11, ev11, h⟩ := bd h
      obtain ⟨q12, eq12, h⟩ := bd h
      obtain ⟨v14, M13, eM13, h⟩ := b2d h
      have hB := eX9_earliest fu q12  M9 hB eM13
      by_cases hc : (jmin v6 (jmin v10 v14)) ≤ a1
      · have h := (if_pos hc).symm.trans h
        obtain ⟨v15, ev15, h⟩ := bd h
        obtain ⟨M16, eM16, h⟩ := bd h
        have hB := e_pF hB eM16
        obtain ⟨v17, ev17, h⟩ := bd h
        obtain ⟨q18, eq18, h⟩ := bd h
        obtain ⟨v20, M19, eM19, h⟩ := b2d h
        have hB := eX4_repeat fu q18 (jmin v6 (jmin v10 v14)) M16 hB eM19
        by_cases hc : v20 = 0
        · have h := (if_pos hc).symm.trans h
          obtain ⟨v21, ev21, h⟩ := bd h
          obtain ⟨q22, eq22, h⟩ := bd h
          obtain ⟨v24, M23, eM23, h⟩ := b2d h
          have hB := eX3_expire fu q22 (jmin v6 (jmin v10 v14)) M19 hB eM23
          by_cases hc : v24 = 0
          · have h := (if_pos hc).symm.trans h
            obtain ⟨v25, ev25, h⟩ := bd h
            obtain ⟨q26, eq26, h⟩ := bd h
            obtain ⟨v28, M27, eM27, h⟩ := b2d h
            have hB := eX9_dueFirst fu q26 (jmin v6 (jmin v10 v14)) M23 hB eM27
            by_cases hc : v28 = none
            · have h := (if_pos hc).symm.trans h
              obtain ⟨v39, ev39, h⟩ := bd h
              obtain ⟨M40, eM40, h⟩ := bd h
              have hB := e_pF hB eM40
              obtain rfl := Option.some.inj h
              exact hB
            · have h := (if_neg hc).symm.trans h
              obtain ⟨v29, ev29, h⟩ := bd h
              obtain ⟨v30, ev30, h⟩ := bd h
              by_cases hc : v30 = (jmin v6 (jmin v10 v14))
              · have h := (if_pos hc).symm.trans h
                obtain ⟨v36, ev36, h⟩ := bd h
                obtain ⟨q37, eq37, h⟩ := bd h
                obtain ⟨M38, eM38, h⟩ := bd h
                have hB := eX9_runOut fu q37 v28 M27 hB eM38
                exact eX11_goOn_L133 fu (fun b0 b1 b2 M => fX11_goOn_L2 fu  n b0 b1 b2 M) ih  a0 a1 a2 M38 hB h
              · have h := (if_neg hc).symm.trans h
                obtain ⟨q31, eq31, h⟩ := bd h
                obtain ⟨M32, eM32, h⟩ := bd h
                have hB := eX1_endLife fu q31  M27 hB eM32
                obtain ⟨v33, ev33, h⟩ := bd h
                obtain ⟨q34, eq34, h⟩ := bd h
                obtain ⟨M35, eM35, h⟩ := bd h
                have hB := eX9_sendWhatMay fu q34 v28 M32 hB eM35
                exact eX11_goOn_L133 fu (fun b0 b1 b2 M => fX11_goOn_L2 fu  n b0 b1 b2 M) ih  a0 a1 a2 M35 hB h
          · have h := (if_neg hc).symm.trans h
            exact eX11_goOn_L133 fu (fun b0 b1 b2 M => fX11_goOn_L2 fu  n b0 b1 b2 M) ih  a0 a1 a2 M23 hB h
        · have h := (if_neg hc).symm.trans h
          exact eX11_goOn_L133 fu (fun b0 b1 b2 M => fX11_goOn_L2 fu  n b0 b1 b2 M) ih  a0 a1 a2 M19 hB h
      · have h := (if_neg hc).symm.trans h
        obtain ⟨v41, ev41, h⟩ := bd h
        obtain ⟨M42, eM42, h⟩ := bd h
        have hB := e_pF hB eM42
        obtain rfl := Option.some.inj h
        exact hB
theorem eX11_goOn (fu : Nat) {out : Mm}   (a0 : Nat) (a1 : Int32)  (M : Mm) (hB : Lst0 M) (h : fX11_goOn fu  a0 a1 M = some out) : Lst0 out := by
  unfold fX11_goOn at h
  exact eX11_goOn_L2 fu   fu a0 a1 (0 : Int32) M hB h
theorem eX11_arrive_L167 (fu : Nat) {out : Int32 × Mm}   (a0 : Nat) (a3 : Int32)  (M : Mm) (hB : Lst0 M) (h : fX11_arrive_L167 fu  a0 a3 M = some out) : Lst0 out.2 := by
  unfold fX11_arrive_L167 at h
  obtain ⟨M1, eM1, h⟩ := bd h
  have hB := e_pF hB eM1
  obtain ⟨v2, ev2, h⟩ := bd h
  obtain ⟨v3, ev3, h⟩ := bd h
  obtain rfl := Option.some.inj h
  exact hB
theorem eX11_arrive (fu : Nat) {out : Int32 × Mm}   (a0 : Nat) (a1 : Int32)  (M : Mm) (hB : Lst0 M) (h : fX11_arrive fu  a0 a1 M = some out) : Lst0 out.2 := by
  unfold fX11_arrive at h
  obtain ⟨q1, eq1, h⟩ := bd h
  obtain ⟨v3, M2, eM2, h⟩ := b2d h
  have hB := eX11_refusal fu q1 a1 M hB eM2
  by_cases hc : v3 = 0
  · have h := (if_pos hc).symm.trans h
    obtain ⟨v4, ev4, h⟩ := bd h
    by_cases hc : v4 < (1 : Int32)
    · have h := (if_pos hc).symm.trans h
      obtain rfl := Option.some.inj h
      exact hB
    · have h := (if_neg hc).symm.trans h
      obtain ⟨v5, ev5, h⟩ := bd h
      by_cases hc : v5 ≤ (1514 : Int32)
      · have h := (if_pos hc).symm.trans h
        obtain ⟨v6, ev6, h⟩ := bd h
        obtain ⟨v7, ev7, h⟩ := bd h
        obtain ⟨q8, eq8, h⟩ := bd h
        obtain ⟨M9, eM9, h⟩ := bd h
        have hB := eX11_goOn fu q8 a1 M2 hB eM9
        obtain ⟨v10, ev10, h⟩ := bd h
        obtain ⟨v11, ev11, h⟩ := bd h
        obtain ⟨v12, ev12, h⟩ := bd h
        obtain ⟨M13, eM13, h⟩ := bd h
        have hB := e_pA hB eM13
        obtain ⟨v14, ev14, h⟩ := bd h
        obtain ⟨v15, ev15, h⟩ := bd h
        obtain ⟨v16, ev16, h⟩ := bd h
        obtain ⟨q17, eq17, h⟩ := bd h
        obtain ⟨v19, M18, eM18, h⟩ := b2d h
        have hB := eX3_read fu q17 v15 v16 M13 hB eM18
        by_cases hc : v19 = (2054 : Int32)
        · have h := (if_pos hc).symm.trans h
          obtain ⟨v37, ev37, h⟩ := bd h
          obtain ⟨v38, ev38, h⟩ := bd h
          obtain ⟨v39, ev39, h⟩ := bd h
          obtain ⟨q40, eq40, h⟩ := bd h
          obtain ⟨M41, eM41, h⟩ := bd h
          have hB := eX4_takeArp fu q40 v38 v39 M18 hB eM41
          exact eX11_arrive_L167 fu    a0 v7 M41 hB h
        · have h := (if_neg hc).symm.trans h
          by_cases hc : v19 = (1 : Int32)
          · have h := (if_pos hc).symm.trans h
            obtain ⟨v34, ev34, h⟩ := bd h
            obtain ⟨q35, eq35, h⟩ := bd h
            obtain ⟨M36, eM36, h⟩ := bd h
            have hB := eX3_echo fu q35  M18 hB eM36
            exact eX11_arrive_L167 fu    a0 v7 M36 hB h
          · have h := (if_neg hc).symm.trans h
            by_cases hc : v19 = (6 : Int32)
            · have h := (if_pos hc).symm.trans h
              obtain ⟨v20, ev20, h⟩ := bd h
              obtain ⟨q21, eq21, h⟩ := bd h
              obtain ⟨v23, M22, eM22, h⟩ := b2d h
              have hB := eX3_readSegment fu q21  M18 hB eM22
              by_cases hc : v23 = 0
              · have h := (if_pos hc).symm.trans h
                exact eX11_arrive_L167 fu    a0 v7 M22 hB h
              · have h := (if_neg hc).symm.trans h
                obtain ⟨v24, ev24, h⟩ := bd h
                obtain ⟨q25, eq25, h⟩ := bd h
                obtain ⟨v27, M26, eM26, h⟩ := b2d h
                have hB := eX9_take fu q25  M22 hB eM26
                by_cases hc : v27 = none
                · have h := (if_pos hc).symm.trans h
                  exact eX11_arrive_L167 fu    a0 v7 M26 hB h
                · have h := (if_neg hc).symm.trans h
                  obtain ⟨v28, ev28, h⟩ := bd h
                  obtain ⟨q29, eq29, h⟩ := bd h
                  obtain ⟨M30, eM30, h⟩ := bd h
                  have hB := eX7_lookAt fu q29 v27 M26 hB eM30
                  obtain ⟨v31, ev31, h⟩ := bd h
                  obtain ⟨q32, eq32, h⟩ := bd h
                  obtain ⟨M33, eM33, h⟩ := bd h
                  have hB := eX9_sendAllDue fu q32 v27 M30 hB eM33
                  exact eX11_arrive_L167 fu    a0 v7 M33 hB h
            · have h := (if_neg hc).symm.trans h
              exact eX11_arrive_L167 fu    a0 v7 M18 hB h
      · have h := (if_neg hc).symm.trans h
        obtain rfl := Option.some.inj h
        exact hB
  · have h := (if_neg hc).symm.trans h
    obtain rfl := Option.some.inj h
    exact hB
theorem eX11_pass (fu : Nat) {out : Int32 × Mm}   (a0 : Nat) (a1 : Int32)  (M : Mm) (hB : Lst0 M) (h : fX11_pass fu  a0 a1 M = some out) : Lst0 out.2 := by
  unfold fX11_pass at h
  obtain ⟨q1, eq1, h⟩ := bd h
  obtain ⟨v3, M2, eM2, h⟩ := b2d h
  have hB := eX11_refusal fu q1 a1 M hB eM2
  by_cases hc : v3 = 0
  · have h := (if_pos hc).symm.trans h
    obtain ⟨v4, ev4, h⟩ := bd h
    obtain ⟨v5, ev5, h⟩ := bd h
    obtain ⟨q6, eq6, h⟩ := bd h
    obtain ⟨M7, eM7, h⟩ := bd h
    have hB := eX11_goOn fu q6 a1 M2 hB eM7
    obtain ⟨v8, ev8, h⟩ := bd h
    obtain ⟨v9, ev9, h⟩ := bd h
    obtain rfl := Option.some.inj h
    exact hB
  · have h := (if_neg hc).symm.trans h
    obtain rfl := Option.some.inj h
    exact hB
theorem eX11_now (fu : Nat) {out : Int32 × Mm}   (a0 : Nat)  (M : Mm) (hB : Lst0 M) (h : fX11_now fu  a0 M = some out) : Lst0 out.2 := by
  unfold fX11_now at h
  obtain ⟨v1, ev1, h⟩ := bd h
  by_cases hc : v1 = 0
  · have h := (if_pos hc).symm.trans h
    obtain rfl := Option.some.inj h
    exact hB
  · have h := (if_neg hc).symm.trans h
    obtain ⟨v2, ev2, h⟩ := bd h
    obtain ⟨v3, ev3, h⟩ := bd h
    obtain rfl := Option.some.inj h
    exact hB
theorem eX11_sent (fu : Nat) {out : Int32 × Mm}   (a0 : Nat)  (M : Mm) (hB : Lst0 M) (h : fX11_sent fu  a0 M = some out) : Lst0 out.2 := by
  unfold fX11_sent at h
  obtain ⟨v1, ev1, h⟩ := bd h
  by_cases hc : v1 = 0
  · have h := (if_pos hc).symm.trans h
    obtain rfl := Option.some.inj h
    exact hB
  · have h := (if_neg hc).symm.trans h
    obtain ⟨v2, ev2, h⟩ := bd h
    obtain ⟨v3, ev3, h⟩ := bd h
    obtain rfl := Option.some.inj h
    exact hB
theorem eX11_frameBack (fu : Nat) {out : Option Nat × Mm}   (a0 : Nat) (a1 : Int32)  (M : Mm) (hB : Lst0 M) (h : fX11_frameBack fu  a0 a1 M = some out) : Lst0 out.2 := by
  unfold fX11_frameBack at h
  obtain ⟨v1, ev1, h⟩ := bd h
  by_cases hc : v1 = 0
  · have h := (if_pos hc).symm.trans h
    obtain rfl := Option.some.inj h
    exact hB
  · have h := (if_neg hc).symm.trans h
    obtain ⟨v2, ev2, h⟩ := bd h
    obtain ⟨q3, eq3, h⟩ := bd h
    obtain ⟨v5, M4, eM4, h⟩ := b2d h
    have hB := eX10_back fu q3 a1 M hB eM4
    obtain rfl := Option.some.inj h
    exact hB
theorem eX11_length (fu : Nat) {out : Int32 × Mm}   (a0 : Nat) (a1 : Int32)  (M : Mm) (hB : Lst0 M) (h : fX11_length fu  a0 a1 M = some out) : Lst0 out.2 := by
  unfold fX11_length at h
  obtain ⟨q1, eq1, h⟩ := bd h
  obtain ⟨v3, M2, eM2, h⟩ := b2d h
  have hB := eX11_frameBack fu q1 a1 M hB eM2
  by_cases hc : v3 = none
  · have h := (if_pos hc).symm.trans h
    obtain rfl := Option.some.inj h
    exact hB
  · have h := (if_neg hc).symm.trans h
    obtain ⟨v4, ev4, h⟩ := bd h
    obtain rfl := Option.some.inj h
    exact hB
theorem eX11_at (fu : Nat) {out : Int32 × Mm}   (a0 : Nat) (a1 : Int32) (a2 : Int32)  (M : Mm) (hB : Lst0 M) (h : fX11_at fu  a0 a1 a2 M = some out) : Lst0 out.2 := by
  unfold fX11_at at h
  obtain ⟨q1, eq1, h⟩ := bd h
  obtain ⟨v3, M2, eM2, h⟩ := b2d h
  have hB := eX11_frameBack fu q1 a1 M hB eM2
  by_cases hc : v3 = none
  · have h := (if_pos hc).symm.trans h
    obtain rfl := Option.some.inj h
    exact hB
  · have h := (if_neg hc).symm.trans h
    by_cases hc : a2 < 0
    · have h := (if_pos hc).symm.trans h
      obtain rfl := Option.some.inj h
      exact hB
    · have h := (if_neg hc).symm.trans h
      obtain ⟨v4, ev4, h⟩ := bd h
      by_cases hc : v4 ≤ a2
      · have h := (if_pos hc).symm.trans h
        obtain rfl := Option.some.inj h
        exact hB
      · have h := (if_neg hc).symm.trans h
        obtain ⟨v5, ev5, h⟩ := bd h
        obtain ⟨v6, ev6, h⟩ := bd h
        by_cases hc : a2 < v6
        · have h := (if_pos hc).symm.trans h
          obtain ⟨v7, ev7, h⟩ := bd h
          obtain ⟨v8, ev8, h⟩ := bd h
          obtain rfl := Option.some.inj h
          exact hB
        · have h := (if_neg hc).symm.trans h
          obtain rfl := Option.some.inj h
          exact hB
theorem eX11_time (fu : Nat) {out : Int32 × Mm}   (a0 : Nat) (a1 : Int32)  (M : Mm) (hB : Lst0 M) (h : fX11_time fu  a0 a1 M = some out) : Lst0 out.2 := by
  unfold fX11_time at h
  obtain ⟨q1, eq1, h⟩ := bd h
  obtain ⟨v3, M2, eM2, h⟩ := b2d h
  have hB := eX11_frameBack fu q1 a1 M hB eM2
  by_cases hc : v3 = none
  · have h := (if_pos hc).symm.trans h
    obtain rfl := Option.some.inj h
    exact hB
  · have h := (if_neg hc).symm.trans h
    obtain ⟨v4, ev4, h⟩ := bd h
    obtain rfl := Option.some.inj h
    exact hB
theorem eX11_connectionAt (fu : Nat) {out : Option Nat × Mm}   (a0 : Nat) (a1 : Int32)  (M : Mm) (hB : Lst0 M) (h : fX11_connectionAt fu  a0 a1 M = some out) : Lst0 out.2 := by
  unfold fX11_connectionAt at h
  obtain ⟨v1, ev1, h⟩ := bd h
  by_cases hc : v1 = 0
  · have h := (if_pos hc).symm.trans h
    obtain rfl := Option.some.inj h
    exact hB
  · have h := (if_neg hc).symm.trans h
    obtain ⟨v2, ev2, h⟩ := bd h
    obtain ⟨q3, eq3, h⟩ := bd h
    obtain ⟨v5, M4, eM4, h⟩ := b2d h
    have hB := eX9_connectionAt fu q3 a1 M hB eM4
    obtain rfl := Option.some.inj h
    exact hB
theorem eX11_state (fu : Nat) {out : Int32 × Mm}   (a0 : Nat) (a1 : Int32)  (M : Mm) (hB : Lst0 M) (h : fX11_state fu  a0 a1 M = some out) : Lst0 out.2 := by
  unfold fX11_state at h
  by_cases hc : a1 < 0
  · have h := (if_pos hc).symm.trans h
    obtain rfl := Option.some.inj h
    exact hB
  · have h := (if_neg hc).symm.trans h
    by_cases hc : a1 < (16 : Int32)
    · have h := (if_pos hc).symm.trans h
      obtain ⟨q1, eq1, h⟩ := bd h
      obtain ⟨v3, M2, eM2, h⟩ := b2d h
      have hB := eX11_connectionAt fu q1 a1 M hB eM2
      by_cases hc : v3 = none
      · have h := (if_pos hc).symm.trans h
        obtain rfl := Option.some.inj h
        exact hB
      · have h := (if_neg hc).symm.trans h
        obtain ⟨v4, ev4, h⟩ := bd h
        obtain rfl := Option.some.inj h
        exact hB
    · have h := (if_neg hc).symm.trans h
      obtain rfl := Option.some.inj h
      exact hB
theorem eX11_look (fu : Nat) {out : Int64 × Mm}   (a0 : Nat) (a1 : Int32) (a2 : Int32)  (M : Mm) (hB : Lst0 M) (h : fX11_look fu  a0 a1 a2 M = some out) : Lst0 out.2 := by
  unfold fX11_look at h
  obtain ⟨q1, eq1, h⟩ := bd h
  obtain ⟨v3, M2, eM2, h⟩ := b2d h
  have hB := eX11_connectionAt fu q1 a1 M hB eM2
  by_cases hc : v3 = none
  · have h := (if_pos hc).symm.trans h
    obtain rfl := Option.some.inj h
    exact hB
  · have h := (if_neg hc).symm.trans h
    by_cases hc : a2 < 0
    · have h := (if_pos hc).symm.trans h
      obtain rfl := Option.some.inj h
      exact hB
    · have h := (if_neg hc).symm.trans h
      by_cases hc : a2 ≤ (14 : Int32)
      · have h := (if_pos hc).symm.trans h
        obtain ⟨q4, eq4, h⟩ := bd h
        obtain ⟨v6, M5, eM5, h⟩ := b2d h
        have hB := eX1_number fu q4 a2 M2 hB eM5
        obtain rfl := Option.some.inj h
        exact hB
      · have h := (if_neg hc).symm.trans h
        obtain rfl := Option.some.inj h
        exact hB
theorem eX11_cached (fu : Nat) {out : Int32 × Mm}   (a0 : Nat) (a1 : Int32)  (M : Mm) (hB : Lst0 M) (h : fX11_cached fu  a0 a1 M = some out) : Lst0 out.2 := by
  unfold fX11_cached at h
  obtain ⟨v1, ev1, h⟩ := bd h
  by_cases hc : v1 = 0
  · have h := (if_pos hc).symm.trans h
    obtain ⟨hz, rfl⟩ := rN_some h
    exact hB
  · have h := (if_neg hc).symm.trans h
    obtain ⟨v2, ev2, h⟩ := bd h
    obtain ⟨q3, eq3, h⟩ := bd h
    obtain ⟨v5, M4, eM4, h⟩ := b2d h
    have hB := eX4_counting fu q3 a1 M hB eM4
    by_cases hc : v5 < 0
    · have h := (if_pos hc).symm.trans h
      obtain ⟨hz, rfl⟩ := rN_some h
      exact hB
    · have h := (if_neg hc).symm.trans h
      obtain ⟨hz, rfl⟩ := rN_some h
      exact hB
theorem eX11_waiting (fu : Nat) {out : Int32 × Mm}   (a0 : Nat)  (M : Mm) (hB : Lst0 M) (h : fX11_waiting fu  a0 M = some out) : Lst0 out.2 := by
  unfold fX11_waiting at h
  obtain ⟨v1, ev1, h⟩ := bd h
  by_cases hc : v1 = 0
  · have h := (if_pos hc).symm.trans h
    obtain rfl := Option.some.inj h
    exact hB
  · have h := (if_neg hc).symm.trans h
    obtain ⟨v2, ev2, h⟩ := bd h
    obtain ⟨v3, ev3, h⟩ := bd h
    obtain rfl := Option.some.inj h
    exact hB
theorem eX11_counted (fu : Nat) {out : Int32 × Mm}   (a0 : Nat) (a1 : Int32)  (M : Mm) (hB : Lst0 M) (h : fX11_counted fu  a0 a1 M = some out) : Lst0 out.2 := by
  unfold fX11_counted at h
  obtain ⟨v1, ev1, h⟩ := bd h
  by_cases hc : v1 = 0
  · have h := (if_pos hc).symm.trans h
    obtain rfl := Option.some.inj h
    exact hB
  · have h := (if_neg hc).symm.trans h
    by_cases hc : a1 < 0
    · have h := (if_pos hc).symm.trans h
      obtain rfl := Option.some.inj h
      exact hB
    · have h := (if_neg hc).symm.trans h
      by_cases hc : a1 < (8 : Int32)
      · have h := (if_pos hc).symm.trans h
        obtain ⟨v2, ev2, h⟩ := bd h
        obtain ⟨v3, ev3, h⟩ := bd h
        obtain ⟨v4, ev4, h⟩ := bd h
        obtain rfl := Option.some.inj h
        exact hB
      · have h := (if_neg hc).symm.trans h
        obtain rfl := Option.some.inj h
        exact hB
theorem eX11_damage_L35 (fu : Nat) {out : Int32 × Mm}   (a0 : Nat) (a1 : Int32) (a2 : Int32)  (M : Mm) (hB : Lst0 M) (h : fX11_damage_L35 fu  a0 a1 a2 M = some out) : Lst0 out.2 := by
  unfold fX11_damage_L35 at h
  obtain ⟨v1, ev1, h⟩ := bd h
  obtain ⟨v2, ev2, h⟩ := bd h
  obtain ⟨M3, eM3, h⟩ := bd h
  have hB := e_pA hB eM3
  obtain ⟨hz, rfl⟩ := rN_some h
  exact hB
theorem eX11_damage (fu : Nat) {out : Int32 × Mm}   (a0 : Nat) (a1 : Int32) (a2 : Int32)  (M : Mm) (hB : Lst0 M) (h : fX11_damage fu  a0 a1 a2 M = some out) : Lst0 out.2 := by
  unfold fX11_damage at h
  by_cases hc : a1 < 0
  · have h := (if_pos hc).symm.trans h
    obtain ⟨hz, rfl⟩ := rN_some h
    exact hB
  · have h := (if_neg hc).symm.trans h
    obtain ⟨v1, ev1, h⟩ := bd h
    obtain ⟨v2, ev2, h⟩ := bd h
    obtain ⟨v3, ev3, h⟩ := bd h
    by_cases hc : v3 ≤ a1
    · have h := (if_pos hc).symm.trans h
      obtain ⟨hz, rfl⟩ := rN_some h
      exact hB
    · have h := (if_neg hc).symm.trans h
      obtain ⟨v4, ev4, h⟩ := bd h
      by_cases hc : v4 = 0
      · have h := (if_pos hc).symm.trans h
        exact eX11_damage_L35 fu    a0 a1 a2 M hB h
      · have h := (if_neg hc).symm.trans h
        obtain ⟨v5, ev5, h⟩ := bd h
        obtain ⟨q6, eq6, h⟩ := bd h
        obtain ⟨v8, M7, eM7, h⟩ := b2d h
        have hB := eX9_isBusy fu q6  M hB eM7
        by_cases hc : v8 = 0
        · have h := (if_pos hc).symm.trans h
          exact eX11_damage_L35 fu    a0 a1 a2 M7 hB h
        · have h := (if_neg hc).symm.trans h
          obtain ⟨hz, rfl⟩ := rN_some h
          exact hB
theorem eX11_strays (fu : Nat) {out : Int32 × Mm}   (a0 : Nat)  (M : Mm) (hB : Lst0 M) (h : fX11_strays fu  a0 M = some out) : Lst0 out.2 := by
  unfold fX11_strays at h
  obtain ⟨v1, ev1, h⟩ := bd h
  by_cases hc : v1 = 0
  · have h := (if_pos hc).symm.trans h
    obtain rfl := Option.some.inj h
    exact hB
  · have h := (if_neg hc).symm.trans h
    obtain ⟨v2, ev2, h⟩ := bd h
    obtain ⟨v3, ev3, h⟩ := bd h
    obtain rfl := Option.some.inj h
    exact hB
