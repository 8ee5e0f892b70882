/-! ===== whose cells are written, printed by a program of ours ===== -/
theorem oX0_init (fu : Nat)   (a0 : Nat)  (M : Mm) {out : Mm} (hB : Bd RX TX M) (ra0 : RX a0) (h : fX0_init fu  a0 M = some out) : Sm RX M out ∧ Bd RX TX out := by
  unfold fX0_init at h
  have hS : Sm RX M M := Sm.rf
  obtain ⟨v1, M2, eM2, h⟩ := b2d h
  have w := mkA_own hB (by decide) eM2
  have hS := hS.tr w.1
  have rv1 := w.2.2
  have hB := w.2.1
  obtain ⟨M3, eM3, h⟩ := bd h
  have w := pG_own hB (show 0 ≤ 11 from by decide) (inR_some rv1) eM3
  have hS := hS.tr w.1
  have hB := w.2
  obtain ⟨v4, M5, eM5, h⟩ := b2d h
  have w := mkA_own hB (by decide) eM5
  have hS := hS.tr w.1
  have rv4 := w.2.2
  have hB := w.2.1
  obtain ⟨M6, eM6, h⟩ := bd h
  have w := pG_own hB (show 0 ≤ 11 from by decide) (inR_some rv4) eM6
  have hS := hS.tr w.1
  have hB := w.2
  obtain rfl := Option.some.inj h
  exact ⟨hS, hB⟩
theorem oJ7_fill_53178_L5 (fu : Nat) {out : Mm}   : ∀ (n : Nat) (a0 : Option Nat) (a1 : Int32) (a2 : Int32) (a3 : Int32)  (M : Mm), Bd RX TX M → inR RX a0 → fJ7_fill_53178_L5 fu  n a0 a1 a2 a3 M = some out → Sm RX M out ∧ Bd RX TX out := by
  intro n
  induction n with
  | zero =>
    intro a0 a1 a2 a3 M hB ia0 h
    have h : (none : Option (Mm)) = some out := h
    cases h
  | succ n ih =>
    intro a0 a1 a2 a3 M hB ia0 h
    rw [fJ7_fill_53178_L5] at h
    have hS : Sm RX M M := Sm.rf
    by_cases hc : a3 ≤ a2
    · have h := (if_pos hc).symm.trans h
      obtain rfl := Option.some.inj h
      exact ⟨hS, hB⟩
    · have h := (if_neg hc).symm.trans h
      obtain ⟨M1, eM1, h⟩ := bd h
      have w := pA_own hB ia0 (by decide) eM1
      have hS := hS.tr w.1
      have hB := w.2
      have z := ih a0 a1 (a2 + (1 : Int32)) a3 M1 hB ia0 h
      exact ⟨hS.tr z.1, z.2⟩
theorem oJ7_fill_53178 (fu : Nat)   (a0 : Option Nat) (a1 : Int32)  (M : Mm) {out : Mm} (hB : Bd RX TX M) (ia0 : inR RX a0) (h : fJ7_fill_53178 fu  a0 a1 M = some out) : Sm RX M out ∧ Bd RX TX out := by
  unfold fJ7_fill_53178 at h
  have hS : Sm RX M M := Sm.rf
  obtain ⟨v1, ev1, h⟩ := bd h
  have z := oJ7_fill_53178_L5 fu   fu a0 a1 (0 : Int32) v1 M hB ia0 h
  exact ⟨hS.tr z.1, z.2⟩
theorem oX0_begin (fu : Nat)   (a0 : Nat) (a1 : Int32)  (M : Mm) {out : Mm} (hB : Bd RX TX M) (ra0 : RX a0) (h : fX0_begin fu  a0 a1 M = some out) : Sm RX M out ∧ Bd RX TX out := by
  unfold fX0_begin at h
  have hS : Sm RX M M := Sm.rf
  obtain ⟨M1, eM1, h⟩ := bd h
  have w := pF_own hB (show 0 ≤ 11 from by decide) eM1
  have hS := hS.tr w.1
  have hB := w.2
  obtain ⟨M2, eM2, h⟩ := bd h
  have w := pF_own hB (show 0 ≤ 11 from by decide) eM2
  have hS := hS.tr w.1
  have hB := w.2
  obtain ⟨M3, eM3, h⟩ := bd h
  have w := pF_own hB (show 0 ≤ 11 from by decide) eM3
  have hS := hS.tr w.1
  have hB := w.2
  obtain ⟨M4, eM4, h⟩ := bd h
  have w := pF_own hB (show 0 ≤ 11 from by decide) eM4
  have hS := hS.tr w.1
  have hB := w.2
  obtain ⟨M5, eM5, h⟩ := bd h
  have w := pZ_own hB (show 0 ≤ 11 from by decide) eM5
  have hS := hS.tr w.1
  have hB := w.2
  obtain ⟨M6, eM6, h⟩ := bd h
  have w := pZ_own hB (show 0 ≤ 11 from by decide) eM6
  have hS := hS.tr w.1
  have hB := w.2
  obtain ⟨M7, eM7, h⟩ := bd h
  have w := pZ_own hB (show 0 ≤ 11 from by decide) eM7
  have hS := hS.tr w.1
  have hB := w.2
  obtain ⟨v8, ev8, h⟩ := bd h
  have iv8 := gR_in hB (show 0 ≤ 11 from by decide) ev8
  obtain ⟨M9, eM9, h⟩ := bd h
  have w := oJ7_fill_53178 fu  v8 (0 : Int32) M7 hB iv8 eM9
  have hS := hS.tr w.1
  have hB := w.2
  obtain rfl := Option.some.inj h
  exact ⟨hS, hB⟩
theorem oX0_held (fu : Nat)   (a0 : Nat)  (M : Mm) {out : Int32 × Mm} (hB : Bd RX TX M) (ra0 : RX a0) (h : fX0_held fu  a0 M = some out) : Sm RX M out.2 ∧ Bd RX TX out.2 := by
  unfold fX0_held at h
  have hS : Sm RX M M := Sm.rf
  obtain ⟨v1, ev1, h⟩ := bd h
  obtain ⟨v2, ev2, h⟩ := bd h
  obtain ⟨v3, ev3, h⟩ := bd h
  by_cases hc : v3 = 0
  · have h := (if_pos hc).symm.trans h
    obtain rfl := Option.some.inj h
    exact ⟨hS, hB⟩
  · have h := (if_neg hc).symm.trans h
    obtain rfl := Option.some.inj h
    exact ⟨hS, hB⟩
theorem oX0_window (fu : Nat)   (a0 : Nat)  (M : Mm) {out : Int32 × Mm} (hB : Bd RX TX M) (ra0 : RX a0) (h : fX0_window fu  a0 M = some out) : Sm RX M out.2 ∧ Bd RX TX out.2 := by
  unfold fX0_window at h
  have hS : Sm RX M M := Sm.rf
  obtain ⟨q1, eq1, h⟩ := bd h
  have rq1 := rc_in hB (show 0 ≤ 11 from by decide) eq1
  obtain ⟨v3, M2, eM2, h⟩ := b2d h
  have w := oX0_held fu q1  M hB rq1 eM2
  have hS := hS.tr w.1
  have hB := w.2
  obtain rfl := Option.some.inj h
  exact ⟨hS, hB⟩
theorem oX0_isInWindow (fu : Nat)   (a0 : Nat) (a1 : Int32)  (M : Mm) {out : Int32 × Mm} (hB : Bd RX TX M) (ra0 : RX a0) (h : fX0_isInWindow fu  a0 a1 M = some out) : Sm RX M out.2 ∧ Bd RX TX out.2 := by
  unfold fX0_isInWindow at h
  have hS : Sm RX M M := Sm.rf
  obtain ⟨v1, ev1, h⟩ := bd h
  by_cases hc : (a1 - v1) < 0
  · have h := (if_pos hc).symm.trans h
    obtain ⟨hz, rfl⟩ := rN_some h
    exact ⟨hS, hB⟩
  · have h := (if_neg hc).symm.trans h
    obtain ⟨v2, ev2, h⟩ := bd h
    obtain ⟨q3, eq3, h⟩ := bd h
    have rq3 := rc_in hB (show 0 ≤ 11 from by decide) eq3
    obtain ⟨v5, M4, eM4, h⟩ := b2d h
    have w := oX0_window fu q3  M hB rq3 eM4
    have hS := hS.tr w.1
    have hB := w.2
    by_cases hc : 0 ≤ (a1 - (v2 + v5))
    · have h := (if_pos hc).symm.trans h
      obtain ⟨hz, rfl⟩ := rN_some h
      exact ⟨hS, hB⟩
    · have h := (if_neg hc).symm.trans h
      obtain ⟨hz, rfl⟩ := rN_some h
      exact ⟨hS, hB⟩
theorem oX3_has (fu : Nat)   (a0 : Nat) (a1 : Int32)  (M : Mm) {out : Int32 × Mm} (hB : Bd RX TX M) (ra0 : RX a0) (h : fX3_has fu  a0 a1 M = some out) : Sm RX M out.2 ∧ Bd RX TX out.2 := by
  unfold fX3_has at h
  have hS : Sm RX M M := Sm.rf
  obtain ⟨v1, ev1, h⟩ := bd h
  by_cases hc : (v1 &&& a1) = 0
  · have h := (if_pos hc).symm.trans h
    obtain ⟨hz, rfl⟩ := rN_some h
    exact ⟨hS, hB⟩
  · have h := (if_neg hc).symm.trans h
    obtain ⟨hz, rfl⟩ := rN_some h
    exact ⟨hS, hB⟩
theorem oX3_span_L17 (fu : Nat)   (a0 : Nat) (s0 : Int32) (s1 : Int32) (M : Mm) {out : Int32 × Mm} (hB : Bd RX TX M) (ra0 : RX a0) (h : fX3_span_L17 fu  a0 s0 s1 M = some out) : Sm RX M out.2 ∧ Bd RX TX out.2 := by
  unfold fX3_span_L17 at h
  have hS : Sm RX M M := Sm.rf
  obtain ⟨q1, eq1, h⟩ := bd h
  have rq1 := rc_in hB (show 3 ≤ 11 from by decide) eq1
  obtain ⟨v3, M2, eM2, h⟩ := b2d h
  have w := oX3_has fu q1 (1 : Int32) M hB rq1 eM2
  have hS := hS.tr w.1
  have hB := w.2
  by_cases hc : v3 = 0
  · have h := (if_pos hc).symm.trans h
    obtain rfl := Option.some.inj h
    exact ⟨hS, hB⟩
  · have h := (if_neg hc).symm.trans h
    obtain rfl := Option.some.inj h
    exact ⟨hS, hB⟩
theorem oX3_span (fu : Nat)   (a0 : Nat)  (M : Mm) {out : Int32 × Mm} (hB : Bd RX TX M) (ra0 : RX a0) (h : fX3_span fu  a0 M = some out) : Sm RX M out.2 ∧ Bd RX TX out.2 := by
  unfold fX3_span at h
  have hS : Sm RX M M := Sm.rf
  obtain ⟨v1, ev1, h⟩ := bd h
  obtain ⟨q2, eq2, h⟩ := bd h
  have rq2 := rc_in hB (show 3 ≤ 11 from by decide) eq2
  obtain ⟨v4, M3, eM3, h⟩ := b2d h
  have w := oX3_has fu q2 (2 : Int32) M hB rq2 eM3
  have hS := hS.tr w.1
  have hB := w.2
  by_cases hc : v4 = 0
  · have h := (if_pos hc).symm.trans h
    have z := oX3_span_L17 fu   a0 v1 (0 : Int32) M3 hB ra0 h
    exact ⟨hS.tr z.1, z.2⟩
  · have h := (if_neg hc).symm.trans h
    have z := oX3_span_L17 fu   a0 v1 (1 : Int32) M3 hB ra0 h
    exact ⟨hS.tr z.1, z.2⟩
theorem oX0_accepts (fu : Nat)   (a0 : Nat) (a1 : Option Nat)  (M : Mm) {out : Int32 × Mm} (hB : Bd RX TX M) (ra0 : RX a0) (ia1 : inR RX a1) (h : fX0_accepts fu  a0 a1 M = some out) : Sm RX M out.2 ∧ Bd RX TX out.2 := by
  unfold fX0_accepts at h
  have hS : Sm RX M M := Sm.rf
  obtain ⟨q1, eq1, h⟩ := bd h
  have rq1 := rc_in hB (show 3 ≤ 11 from by decide) eq1
  obtain ⟨v3, M2, eM2, h⟩ := b2d h
  have w := oX3_span fu q1  M hB rq1 eM2
  have hS := hS.tr w.1
  have hB := w.2
  obtain ⟨q4, eq4, h⟩ := bd h
  have rq4 := rc_in hB (show 0 ≤ 11 from by decide) eq4
  obtain ⟨v6, M5, eM5, h⟩ := b2d h
  have w := oX0_window fu q4  M2 hB rq4 eM5
  have hS := hS.tr w.1
  have hB := w.2
  by_cases hc : v6 = 0
  · have h := (if_pos hc).symm.trans h
    by_cases hc : v3 = 0
    · have h := (if_pos hc).symm.trans h
      obtain ⟨v15, ev15, h⟩ := bd h
      obtain ⟨v16, ev16, h⟩ := bd h
      by_cases hc : v15 = v16
      · have h := (if_pos hc).symm.trans h
        obtain ⟨hz, rfl⟩ := rN_some h
        exact ⟨hS, hB⟩
      · have h := (if_neg hc).symm.trans h
        obtain ⟨hz, rfl⟩ := rN_some h
        exact ⟨hS, hB⟩
    · have h := (if_neg hc).symm.trans h
      obtain ⟨hz, rfl⟩ := rN_some h
      exact ⟨hS, hB⟩
  · have h := (if_neg hc).symm.trans h
    obtain ⟨v7, ev7, h⟩ := bd h
    obtain ⟨q8, eq8, h⟩ := bd h
    have rq8 := rc_in hB (show 0 ≤ 11 from by decide) eq8
    obtain ⟨v10, M9, eM9, h⟩ := b2d h
    have w := oX0_isInWindow fu q8 v7 M5 hB rq8 eM9
    have hS := hS.tr w.1
    have hB := w.2
    by_cases hc : v10 = 0
    · have h := (if_pos hc).symm.trans h
      by_cases hc : v3 ≤ 0
      · have h := (if_pos hc).symm.trans h
        obtain ⟨hz, rfl⟩ := rN_some h
        exact ⟨hS, hB⟩
      · have h := (if_neg hc).symm.trans h
        obtain ⟨v11, ev11, h⟩ := bd h
        obtain ⟨q12, eq12, h⟩ := bd h
        have rq12 := rc_in hB (show 0 ≤ 11 from by decide) eq12
        obtain ⟨v14, M13, eM13, h⟩ := b2d h
        have w := oX0_isInWindow fu q12 ((v11 + v3) - (1 : Int32)) M9 hB rq12 eM13
        have hS := hS.tr w.1
        have hB := w.2
        by_cases hc : v14 = 0
        · have h := (if_pos hc).symm.trans h
          obtain ⟨hz, rfl⟩ := rN_some h
          exact ⟨hS, hB⟩
        · have h := (if_neg hc).symm.trans h
          obtain ⟨hz, rfl⟩ := rN_some h
          exact ⟨hS, hB⟩
    · have h := (if_neg hc).symm.trans h
      obtain ⟨hz, rfl⟩ := rN_some h
      exact ⟨hS, hB⟩
theorem oX11_one (fu : Nat)   (a0 : Option Nat) (a1 : Int32)  (M : Mm) {out : Int32 × Mm} (hB : Bd RX TX M) (ia0 : inR RX a0) (h : fX11_one fu  a0 a1 M = some out) : Sm RX M out.2 ∧ Bd RX TX out.2 := by
  unfold fX11_one at h
  have hS : Sm RX M M := Sm.rf
  by_cases hc : a1 < 0
  · have h := (if_pos hc).symm.trans h
    obtain rfl := Option.some.inj h
    exact ⟨hS, hB⟩
  · have h := (if_neg hc).symm.trans h
    obtain ⟨v1, ev1, h⟩ := bd h
    by_cases hc : v1 ≤ a1
    · have h := (if_pos hc).symm.trans h
      obtain rfl := Option.some.inj h
      exact ⟨hS, hB⟩
    · have h := (if_neg hc).symm.trans h
      obtain ⟨v2, ev2, h⟩ := bd h
      obtain rfl := Option.some.inj h
      exact ⟨hS, hB⟩
theorem oX0_putAhead_L110 (fu : Nat) {out : Mm} (k7 : Nat → Option Nat → Int32 → Int32 → Mm → Option (Mm)) (hk7 : ∀ (b0 : Nat) (b1 : Option Nat) (b2 : Int32) (b3 : Int32)  (M : Mm), Bd RX TX M → RX b0 → inR RX b1 → k7 b0 b1 b2 b3 M = some out → Sm RX M out ∧ Bd RX TX out) (a0 : Nat) (a1 : Option Nat) (a2 : Int32) (a3 : Int32)  (M : Mm) (hB : Bd RX TX M) (ra0 : RX a0) (ia1 : inR RX a1) (h : fX0_putAhead_L110 fu k7 a0 a1 a2 a3 M = some out) : Sm RX M out ∧ Bd RX TX out := by
  unfold fX0_putAhead_L110 at h
  have hS : Sm RX M M := Sm.rf
  have z := hk7 a0 a1 a2 (a3 + (1 : Int32)) M hB ra0 ia1 h
  exact ⟨hS.tr z.1, z.2⟩
theorem oX0_putAhead_L7 (fu : Nat) {out : Mm}   : ∀ (n : Nat) (a0 : Nat) (a1 : Option Nat) (a2 : Int32) (a3 : Int32)  (M : Mm), Bd RX TX M → RX a0 → inR RX a1 → fX0_putAhead_L7 fu  n a0 a1 a2 a3 M = some out → Sm RX M out ∧ Bd RX TX out := by
  intro n
  induction n with
  | zero =>
    intro a0 a1 a2 a3 M hB ra0 ia1 h
    have h : (none : Option (Mm)) = some out := h
    cases h
  | succ n ih =>
    intro a0 a1 a2 a3 M hB ra0 ia1 h
    rw [fX0_putAhead_L7] at h
    have hS : Sm RX M M := Sm.rf
    obtain ⟨v1, ev1, h⟩ := bd h
    by_cases hc : v1 ≤ a3
    · have h := (if_pos hc).symm.trans h
      obtain rfl := Option.some.inj h
      exact ⟨hS, hB⟩
    · have h := (if_neg hc).symm.trans h
      obtain ⟨v2, ev2, h⟩ := bd h
      obtain ⟨v3, ev3, h⟩ := bd h
      obtain ⟨v4, ev4, h⟩ := bd h
      by_cases hc : ((v2 + a3) - v3) < 0
      · have h := (if_pos hc).symm.trans h
        have z := oX0_putAhead_L110 fu (fun b0 b1 b2 b3 M => fX0_putAhead_L7 fu  n b0 b1 b2 b3 M) ih a0 a1 a2 a3 M hB ra0 ia1 h
        exact ⟨hS.tr z.1, z.2⟩
      · have h := (if_neg hc).symm.trans h
        by_cases hc : a2 ≤ ((v2 + a3) - v3)
        · have h := (if_pos hc).symm.trans h
          have z := oX0_putAhead_L110 fu (fun b0 b1 b2 b3 M => fX0_putAhead_L7 fu  n b0 b1 b2 b3 M) ih a0 a1 a2 a3 M hB ra0 ia1 h
          exact ⟨hS.tr z.1, z.2⟩
        · have h := (if_neg hc).symm.trans h
          obtain ⟨v5, ev5, h⟩ := bd h
          have iv5 := gR_in hB (show 0 ≤ 11 from by decide) ev5
          obtain ⟨v6, ev6, h⟩ := bd h
          by_cases hc : (v6 &&& v4) = 0
          · have h := (if_pos hc).symm.trans h
            obtain ⟨v7, ev7, h⟩ := bd h
            have iv7 := gR_in hB (show 0 ≤ 11 from by decide) ev7
            obtain ⟨v8, ev8, h⟩ := bd h
            obtain ⟨M9, eM9, h⟩ := bd h
            have w := pA_own hB iv7 (by decide) eM9
            have hS := hS.tr w.1
            have hB := w.2
            obtain ⟨v10, ev10, h⟩ := bd h
            have iv10 := gR_in hB (show 0 ≤ 11 from by decide) ev10
            obtain ⟨v11, ev11, h⟩ := bd h
            have iv11 := gR_in hB (show 3 ≤ 11 from by decide) ev11
            obtain ⟨v12, ev12, h⟩ := bd h
            obtain ⟨v14, M13, eM13, h⟩ := b2d h
            have w := oX11_one fu  v11 (v12 + a3) M9 hB iv11 eM13
            have hS := hS.tr w.1
            have hB := w.2
            obtain ⟨M15, eM15, h⟩ := bd h
            have w := pA_ownB hB iv10 eM15
            have hS := hS.tr w.1
            have hB := w.2
            have z := oX0_putAhead_L110 fu (fun b0 b1 b2 b3 M => fX0_putAhead_L7 fu  n b0 b1 b2 b3 M) ih a0 a1 a2 a3 M15 hB ra0 ia1 h
            exact ⟨hS.tr z.1, z.2⟩
          · have h := (if_neg hc).symm.trans h
            have z := oX0_putAhead_L110 fu (fun b0 b1 b2 b3 M => fX0_putAhead_L7 fu  n b0 b1 b2 b3 M) ih a0 a1 a2 a3 M hB ra0 ia1 h
            exact ⟨hS.tr z.1, z.2⟩
theorem oX0_putAhead (fu : Nat)   (a0 : Nat) (a1 : Option Nat)  (M : Mm) {out : Mm} (hB : Bd RX TX M) (ra0 : RX a0) (ia1 : inR RX a1) (h : fX0_putAhead fu  a0 a1 M = some out) : Sm RX M out ∧ Bd RX TX out := by
  unfold fX0_putAhead at h
  have hS : Sm RX M M := Sm.rf
  obtain ⟨q1, eq1, h⟩ := bd h
  have rq1 := rc_in hB (show 0 ≤ 11 from by decide) eq1
  obtain ⟨v3, M2, eM2, h⟩ := b2d h
  have w := oX0_window fu q1  M hB rq1 eM2
  have hS := hS.tr w.1
  have hB := w.2
  have z := oX0_putAhead_L7 fu   fu a0 a1 v3 (0 : Int32) M2 hB ra0 ia1 h
  exact ⟨hS.tr z.1, z.2⟩
theorem oX0_goOverWhatIsThere_L2 (fu : Nat) {out : Mm}   : ∀ (n : Nat) (a0 : Nat) (a1 : Int32)  (M : Mm), Bd RX TX M → RX a0 → fX0_goOverWhatIsThere_L2 fu  n a0 a1 M = some out → Sm RX M out ∧ Bd RX TX out := by
  intro n
  induction n with
  | zero =>
    intro a0 a1 M hB ra0 h
    have h : (none : Option (Mm)) = some out := h
    cases h
  | succ n ih =>
    intro a0 a1 M hB ra0 h
    rw [fX0_goOverWhatIsThere_L2] at h
    have hS : Sm RX M M := Sm.rf
    by_cases hc : (4096 : Int32) ≤ a1
    · have h := (if_pos hc).symm.trans h
      obtain rfl := Option.some.inj h
      exact ⟨hS, hB⟩
    · have h := (if_neg hc).symm.trans h
      obtain ⟨v1, ev1, h⟩ := bd h
      obtain ⟨v2, ev2, h⟩ := bd h
      obtain ⟨v3, ev3, h⟩ := bd h
      have iv3 := gR_in hB (show 0 ≤ 11 from by decide) ev3
      obtain ⟨v4, ev4, h⟩ := bd h
      by_cases hc : (v4 &&& v2) = 0
      · have h := (if_pos hc).symm.trans h
        obtain rfl := Option.some.inj h
        exact ⟨hS, hB⟩
      · have h := (if_neg hc).symm.trans h
        obtain ⟨v5, ev5, h⟩ := bd h
        have iv5 := gR_in hB (show 0 ≤ 11 from by decide) ev5
        obtain ⟨v6, ev6, h⟩ := bd h
        obtain ⟨M7, eM7, h⟩ := bd h
        have w := pA_own hB iv5 (by decide) eM7
        have hS := hS.tr w.1
        have hB := w.2
        obtain ⟨v8, ev8, h⟩ := bd h
        obtain ⟨M9, eM9, h⟩ := bd h
        have w := pF_own hB (show 0 ≤ 11 from by decide) eM9
        have hS := hS.tr w.1
        have hB := w.2
        have z := ih a0 (a1 + (1 : Int32)) M9 hB ra0 h
        exact ⟨hS.tr z.1, z.2⟩
theorem oX0_goOverWhatIsThere (fu : Nat)   (a0 : Nat)  (M : Mm) {out : Mm} (hB : Bd RX TX M) (ra0 : RX a0) (h : fX0_goOverWhatIsThere fu  a0 M = some out) : Sm RX M out ∧ Bd RX TX out := by
  unfold fX0_goOverWhatIsThere at h
  have hS : Sm RX M M := Sm.rf
  have z := oX0_goOverWhatIsThere_L2 fu   fu a0 (0 : Int32) M hB ra0 h
  exact ⟨hS.tr z.1, z.2⟩
theorem oX0_take_L63 (fu : Nat)   (a0 : Nat) (a1 : Option Nat)  (M : Mm) {out : Int32 × Mm} (hB : Bd RX TX M) (ra0 : RX a0) (ia1 : inR RX a1) (h : fX0_take_L63 fu  a0 a1 M = some out) : Sm RX M out.2 ∧ Bd RX TX out.2 := by
  unfold fX0_take_L63 at h
  have hS : Sm RX M M := Sm.rf
  obtain ⟨q1, eq1, h⟩ := bd h
  have rq1 := rc_in hB (show 0 ≤ 11 from by decide) eq1
  obtain ⟨M2, eM2, h⟩ := bd h
  have w := oX0_putAhead fu q1 a1 M hB rq1 ia1 eM2
  have hS := hS.tr w.1
  have hB := w.2
  obtain ⟨q3, eq3, h⟩ := bd h
  have rq3 := rc_in hB (show 0 ≤ 11 from by decide) eq3
  obtain ⟨M4, eM4, h⟩ := bd h
  have w := oX0_goOverWhatIsThere fu q3  M2 hB rq3 eM4
  have hS := hS.tr w.1
  have hB := w.2
  obtain ⟨v5, ev5, h⟩ := bd h
  by_cases hc : v5 = 0
  · have h := (if_pos hc).symm.trans h
    obtain ⟨hz, rfl⟩ := rN_some h
    exact ⟨hS, hB⟩
  · have h := (if_neg hc).symm.trans h
    obtain ⟨v6, ev6, h⟩ := bd h
    by_cases hc : v6 = 0
    · have h := (if_pos hc).symm.trans h
      obtain ⟨v7, ev7, h⟩ := bd h
      obtain ⟨v8, ev8, h⟩ := bd h
      by_cases hc : v7 = v8
      · have h := (if_pos hc).symm.trans h
        obtain ⟨v9, ev9, h⟩ := bd h
        obtain ⟨M10, eM10, h⟩ := bd h
        have w := pF_own hB (show 0 ≤ 11 from by decide) eM10
        have hS := hS.tr w.1
        have hB := w.2
        obtain ⟨M11, eM11, h⟩ := bd h
        have w := pZ_own hB (show 0 ≤ 11 from by decide) eM11
        have hS := hS.tr w.1
        have hB := w.2
        obtain ⟨hz, rfl⟩ := rN_some h
        exact ⟨hS, hB⟩
      · have h := (if_neg hc).symm.trans h
        obtain ⟨hz, rfl⟩ := rN_some h
        exact ⟨hS, hB⟩
    · have h := (if_neg hc).symm.trans h
      obtain ⟨hz, rfl⟩ := rN_some h
      exact ⟨hS, hB⟩
theorem oX0_take_L58 (fu : Nat)   (a0 : Nat) (a1 : Option Nat)  (M : Mm) {out : Int32 × Mm} (hB : Bd RX TX M) (ra0 : RX a0) (ia1 : inR RX a1) (h : fX0_take_L58 fu  a0 a1 M = some out) : Sm RX M out.2 ∧ Bd RX TX out.2 := by
  unfold fX0_take_L58 at h
  have hS : Sm RX M M := Sm.rf
  obtain ⟨M1, eM1, h⟩ := bd h
  have w := pZ_own hB (show 0 ≤ 11 from by decide) eM1
  have hS := hS.tr w.1
  have hB := w.2
  have z := oX0_take_L63 fu   a0 a1 M1 hB ra0 ia1 h
  exact ⟨hS.tr z.1, z.2⟩
theorem oX0_take_L43 (fu : Nat)   (a0 : Nat) (a1 : Option Nat)  (M : Mm) {out : Int32 × Mm} (hB : Bd RX TX M) (ra0 : RX a0) (ia1 : inR RX a1) (h : fX0_take_L43 fu  a0 a1 M = some out) : Sm RX M out.2 ∧ Bd RX TX out.2 := by
  unfold fX0_take_L43 at h
  have hS : Sm RX M M := Sm.rf
  obtain ⟨v1, ev1, h⟩ := bd h
  by_cases hc : 0 < v1
  · have h := (if_pos hc).symm.trans h
    have z := oX0_take_L58 fu   a0 a1 M hB ra0 ia1 h
    exact ⟨hS.tr z.1, z.2⟩
  · have h := (if_neg hc).symm.trans h
    obtain ⟨q2, eq2, h⟩ := bd h
    have rq2 := rc_in hB (show 3 ≤ 11 from by decide) eq2
    obtain ⟨v4, M3, eM3, h⟩ := b2d h
    have w := oX3_has fu q2 (1 : Int32) M hB rq2 eM3
    have hS := hS.tr w.1
    have hB := w.2
    by_cases hc : v4 = 0
    · have h := (if_pos hc).symm.trans h
      have z := oX0_take_L63 fu   a0 a1 M3 hB ra0 ia1 h
      exact ⟨hS.tr z.1, z.2⟩
    · have h := (if_neg hc).symm.trans h
      have z := oX0_take_L58 fu   a0 a1 M3 hB ra0 ia1 h
      exact ⟨hS.tr z.1, z.2⟩
theorem oX0_take (fu : Nat)   (a0 : Nat) (a1 : Option Nat)  (M : Mm) {out : Int32 × Mm} (hB : Bd RX TX M) (ra0 : RX a0) (ia1 : inR RX a1) (h : fX0_take fu  a0 a1 M = some out) : Sm RX M out.2 ∧ Bd RX TX out.2 := by
  unfold fX0_take at h
  have hS : Sm RX M M := Sm.rf
  obtain ⟨v1, ev1, h⟩ := bd h
  obtain ⟨v2, ev2, h⟩ := bd h
  obtain ⟨q3, eq3, h⟩ := bd h
  have rq3 := rc_in hB (show 3 ≤ 11 from by decide) eq3
  obtain ⟨v5, M4, eM4, h⟩ := b2d h
  have w := oX3_has fu q3 (1 : Int32) M hB rq3 eM4
  have hS := hS.tr w.1
  have hB := w.2
  by_cases hc : v5 = 0
  · have h := (if_pos hc).symm.trans h
    have z := oX0_take_L43 fu   a0 a1 M4 hB ra0 ia1 h
    exact ⟨hS.tr z.1, z.2⟩
  · have h := (if_neg hc).symm.trans h
    obtain ⟨v6, ev6, h⟩ := bd h
    by_cases hc : v6 = 0
    · have h := (if_pos hc).symm.trans h
      obtain ⟨q7, eq7, h⟩ := bd h
      have rq7 := rc_in hB (show 0 ≤ 11 from by decide) eq7
      obtain ⟨v9, M8, eM8, h⟩ := b2d h
      have w := oX0_isInWindow fu q7 (v1 + v2) M4 hB rq7 eM8
      have hS := hS.tr w.1
      have hB := w.2
      by_cases hc : v9 = 0
      · have h := (if_pos hc).symm.trans h
        have z := oX0_take_L43 fu   a0 a1 M8 hB ra0 ia1 h
        exact ⟨hS.tr z.1, z.2⟩
      · have h := (if_neg hc).symm.trans h
        obtain ⟨M10, eM10, h⟩ := bd h
        have w := pZ_own hB (show 0 ≤ 11 from by decide) eM10
        have hS := hS.tr w.1
        have hB := w.2
        obtain ⟨M11, eM11, h⟩ := bd h
        have w := pF_own hB (show 0 ≤ 11 from by decide) eM11
        have hS := hS.tr w.1
        have hB := w.2
        have z := oX0_take_L43 fu   a0 a1 M11 hB ra0 ia1 h
        exact ⟨hS.tr z.1, z.2⟩
    · have h := (if_neg hc).symm.trans h
      have z := oX0_take_L43 fu   a0 a1 M4 hB ra0 ia1 h
      exact ⟨hS.tr z.1, z.2⟩
theorem oX0_peek (fu : Nat)   (a0 : Nat) (a1 : Int32)  (M : Mm) {out : Int32 × Mm} (hB : Bd RX TX M) (ra0 : RX a0) (h : fX0_peek fu  a0 a1 M = some out) : Sm RX M out.2 ∧ Bd RX TX out.2 := by
  unfold fX0_peek at h
  have hS : Sm RX M M := Sm.rf
  obtain ⟨v1, ev1, h⟩ := bd h
  have iv1 := gR_in hB (show 0 ≤ 11 from by decide) ev1
  obtain ⟨v2, ev2, h⟩ := bd h
  obtain ⟨v3, ev3, h⟩ := bd h
  obtain rfl := Option.some.inj h
  exact ⟨hS, hB⟩
theorem oX0_leave (fu : Nat)   (a0 : Nat) (a1 : Int32)  (M : Mm) {out : Mm} (hB : Bd RX TX M) (ra0 : RX a0) (h : fX0_leave fu  a0 a1 M = some out) : Sm RX M out ∧ Bd RX TX out := by
  unfold fX0_leave at h
  have hS : Sm RX M M := Sm.rf
  obtain ⟨v1, ev1, h⟩ := bd h
  obtain ⟨M2, eM2, h⟩ := bd h
  have w := pF_own hB (show 0 ≤ 11 from by decide) eM2
  have hS := hS.tr w.1
  have hB := w.2
  obtain ⟨q3, eq3, h⟩ := bd h
  have rq3 := rc_in hB (show 0 ≤ 11 from by decide) eq3
  obtain ⟨v5, M4, eM4, h⟩ := b2d h
  have w := oX0_window fu q3  M2 hB rq3 eM4
  have hS := hS.tr w.1
  have hB := w.2
  obtain ⟨v6, ev6, h⟩ := bd h
  by_cases hc : (v5 - v6) < (2048 : Int32)
  · have h := (if_pos hc).symm.trans h
    obtain rfl := Option.some.inj h
    exact ⟨hS, hB⟩
  · have h := (if_neg hc).symm.trans h
    obtain ⟨M7, eM7, h⟩ := bd h
    have w := pZ_own hB (show 0 ≤ 11 from by decide) eM7
    have hS := hS.tr w.1
    have hB := w.2
    obtain rfl := Option.some.inj h
    exact ⟨hS, hB⟩
theorem oX0_leaveBody (fu : Nat)   (a0 : Nat)  (M : Mm) {out : Mm} (hB : Bd RX TX M) (ra0 : RX a0) (h : fX0_leaveBody fu  a0 M = some out) : Sm RX M out ∧ Bd RX TX out := by
  unfold fX0_leaveBody at h
  have hS : Sm RX M M := Sm.rf
  obtain ⟨v1, ev1, h⟩ := bd h
  obtain ⟨q2, eq2, h⟩ := bd h
  have rq2 := rc_in hB (show 0 ≤ 11 from by decide) eq2
  obtain ⟨v4, M3, eM3, h⟩ := b2d h
  have w := oX0_held fu q2  M hB rq2 eM3
  have hS := hS.tr w.1
  have hB := w.2
  by_cases hc : (jmin v1 v4) ≤ 0
  · have h := (if_pos hc).symm.trans h
    obtain rfl := Option.some.inj h
    exact ⟨hS, hB⟩
  · have h := (if_neg hc).symm.trans h
    obtain ⟨v5, ev5, h⟩ := bd h
    obtain ⟨M6, eM6, h⟩ := bd h
    have w := pF_own hB (show 0 ≤ 11 from by decide) eM6
    have hS := hS.tr w.1
    have hB := w.2
    obtain ⟨q7, eq7, h⟩ := bd h
    have rq7 := rc_in hB (show 0 ≤ 11 from by decide) eq7
    obtain ⟨M8, eM8, h⟩ := bd h
    have w := oX0_leave fu q7 (jmin v1 v4) M6 hB rq7 eM8
    have hS := hS.tr w.1
    have hB := w.2
    obtain rfl := Option.some.inj h
    exact ⟨hS, hB⟩
theorem oX5_init (fu : Nat)   (a0 : Nat)  (M : Mm) {out : Mm} (hB : Bd RX TX M) (ra0 : RX a0) (h : fX5_init fu  a0 M = some out) : Sm RX M out ∧ Bd RX TX out := by
  unfold fX5_init at h
  have hS : Sm RX M M := Sm.rf
  obtain rfl := Option.some.inj h
  exact ⟨hS, hB⟩
theorem oX1_init (fu : Nat)   (a0 : Nat)  (M : Mm) {out : Mm} (hB : Bd RX TX M) (ra0 : RX a0) (h : fX1_init fu  a0 M = some out) : Sm RX M out ∧ Bd RX TX out := by
  unfold fX1_init at h
  have hS : Sm RX M M := Sm.rf
  obtain ⟨v1, M2, eM2, h⟩ := b2d h
  have w := mkA_own hB (by decide) eM2
  have hS := hS.tr w.1
  have rv1 := w.2.2
  have hB := w.2.1
  obtain ⟨M3, eM3, h⟩ := bd h
  have w := pG_own hB (show 1 ≤ 11 from by decide) (inR_some rv1) eM3
  have hS := hS.tr w.1
  have hB := w.2
  obtain ⟨v4, M5, eM5, h⟩ := b2d h
  have w := mkO_own hB (by decide) eM5
  have hS := hS.tr w.1
  have rv4 := w.2.2
  have hB := w.2.1
  obtain ⟨M6, eM6, h⟩ := bd h
  have w := oX0_init fu v4  M5 hB rv4 eM6
  have hS := hS.tr w.1
  have hB := w.2
  obtain ⟨M7, eM7, h⟩ := bd h
  have w := pG_own hB (show 1 ≤ 11 from by decide) (inR_some rv4) eM7
  have hS := hS.tr w.1
  have hB := w.2
  obtain ⟨v8, M9, eM9, h⟩ := b2d h
  have w := mkO_own hB (by decide) eM9
  have hS := hS.tr w.1
  have rv8 := w.2.2
  have hB := w.2.1
  obtain ⟨M10, eM10, h⟩ := bd h
  have w := oX5_init fu v8  M9 hB rv8 eM10
  have hS := hS.tr w.1
  have hB := w.2
  obtain ⟨M11, eM11, h⟩ := bd h
  have w := pG_own hB (show 1 ≤ 11 from by decide) (inR_some rv8) eM11
  have hS := hS.tr w.1
  have hB := w.2
  obtain rfl := Option.some.inj h
  exact ⟨hS, hB⟩
theorem oX1_clearAnswer (fu : Nat)   (a0 : Nat) (a1 : Int32)  (M : Mm) {out : Mm} (hB : Bd RX TX M) (ra0 : RX a0) (h : fX1_clearAnswer fu  a0 a1 M = some out) : Sm RX M out ∧ Bd RX TX out := by
  unfold fX1_clearAnswer at h
  have hS : Sm RX M M := Sm.rf
  obtain ⟨M1, eM1, h⟩ := bd h
  have w := pF_own hB (show 1 ≤ 11 from by decide) eM1
  have hS := hS.tr w.1
  have hB := w.2
  obtain ⟨M2, eM2, h⟩ := bd h
  have w := pF_own hB (show 1 ≤ 11 from by decide) eM2
  have hS := hS.tr w.1
  have hB := w.2
  obtain ⟨M3, eM3, h⟩ := bd h
  have w := pF_own hB (show 1 ≤ 11 from by decide) eM3
  have hS := hS.tr w.1
  have hB := w.2
  obtain ⟨M4, eM4, h⟩ := bd h
  have w := pF_own hB (show 1 ≤ 11 from by decide) eM4
  have hS := hS.tr w.1
  have hB := w.2
  obtain ⟨M5, eM5, h⟩ := bd h
  have w := pZ_own hB (show 1 ≤ 11 from by decide) eM5
  have hS := hS.tr w.1
  have hB := w.2
  obtain rfl := Option.some.inj h
  exact ⟨hS, hB⟩
theorem oX11_two (fu : Nat)   (a0 : Option Nat) (a1 : Int32)  (M : Mm) {out : Int32 × Mm} (hB : Bd RX TX M) (ia0 : inR RX a0) (h : fX11_two fu  a0 a1 M = some out) : Sm RX M out.2 ∧ Bd RX TX out.2 := by
  unfold fX11_two at h
  have hS : Sm RX M M := Sm.rf
  by_cases hc : a1 < 0
  · have h := (if_pos hc).symm.trans h
    obtain rfl := Option.some.inj h
    exact ⟨hS, hB⟩
  · have h := (if_neg hc).symm.trans h
    obtain ⟨v1, ev1, h⟩ := bd h
    by_cases hc : a1 ≤ (v1 - (2 : Int32))
    · have h := (if_pos hc).symm.trans h
      obtain ⟨v2, ev2, h⟩ := bd h
      obtain ⟨v3, ev3, h⟩ := bd h
      obtain rfl := Option.some.inj h
      exact ⟨hS, hB⟩
    · have h := (if_neg hc).symm.trans h
      obtain rfl := Option.some.inj h
      exact ⟨hS, hB⟩
theorem oX3_mss_L114 (fu : Nat) {out : Int32 × Mm} (k8 : Nat → Int32 → Mm → Option (Int32 × Mm)) (hk8 : ∀ (b0 : Nat) (b1 : Int32)  (M : Mm), Bd RX TX M → RX b0 → k8 b0 b1 M = some out → Sm RX M out.2 ∧ Bd RX TX out.2) (a0 : Nat) (a1 : Int32) (a3 : Int32)  (M : Mm) (hB : Bd RX TX M) (ra0 : RX a0) (h : fX3_mss_L114 fu k8 a0 a1 a3 M = some out) : Sm RX M out.2 ∧ Bd RX TX out.2 := by
  unfold fX3_mss_L114 at h
  have hS : Sm RX M M := Sm.rf
  have z := hk8 a0 (a1 + a3) M hB ra0 h
  exact ⟨hS.tr z.1, z.2⟩
theorem oX3_mss_L63 (fu : Nat) {out : Int32 × Mm} (k8 : Nat → Int32 → Mm → Option (Int32 × Mm)) (hk8 : ∀ (b0 : Nat) (b1 : Int32)  (M : Mm), Bd RX TX M → RX b0 → k8 b0 b1 M = some out → Sm RX M out.2 ∧ Bd RX TX out.2) (a0 : Nat) (a1 : Int32) (a2 : Int32) (s0 : Int32) (M : Mm) (hB : Bd RX TX M) (ra0 : RX a0) (h : fX3_mss_L63 fu k8 a0 a1 a2 s0 M = some out) : Sm RX M out.2 ∧ Bd RX TX out.2 := by
  unfold fX3_mss_L63 at h
  have hS : Sm RX M M := Sm.rf
  by_cases hc : s0 < (2 : Int32)
  · have h := (if_pos hc).symm.trans h
    obtain rfl := Option.some.inj h
    exact ⟨hS, hB⟩
  · have h := (if_neg hc).symm.trans h
    obtain ⟨v1, ev1, h⟩ := bd h
    by_cases hc : (a1 + s0) ≤ v1
    · have h := (if_pos hc).symm.trans h
      by_cases hc : a2 = (2 : Int32)
      · have h := (if_pos hc).symm.trans h
        by_cases hc : s0 = (4 : Int32)
        · have h := (if_pos hc).symm.trans h
          obtain ⟨v2, ev2, h⟩ := bd h
          have iv2 := gR_in hB (show 3 ≤ 11 from by decide) ev2
          obtain ⟨v4, M3, eM3, h⟩ := b2d h
          have w := oX11_two fu  v2 (a1 + (2 : Int32)) M hB iv2 eM3
          have hS := hS.tr w.1
          have hB := w.2
          obtain rfl := Option.some.inj h
          exact ⟨hS, hB⟩
        · have h := (if_neg hc).symm.trans h
          have z := oX3_mss_L114 fu k8 hk8 a0 a1 s0 M hB ra0 h
          exact ⟨hS.tr z.1, z.2⟩
      · have h := (if_neg hc).symm.trans h
        have z := oX3_mss_L114 fu k8 hk8 a0 a1 s0 M hB ra0 h
        exact ⟨hS.tr z.1, z.2⟩
    · have h := (if_neg hc).symm.trans h
      obtain rfl := Option.some.inj h
      exact ⟨hS, hB⟩
theorem oX3_mss_L8 (fu : Nat) {out : Int32 × Mm}   : ∀ (n : Nat) (a0 : Nat) (a1 : Int32)  (M : Mm), Bd RX TX M → RX a0 → fX3_mss_L8 fu  n a0 a1 M = some out → Sm RX M out.2 ∧ Bd RX TX out.2 := by
  intro n
  induction n with
  | zero =>
    intro a0 a1 M hB ra0 h
    have h : (none : Option (Int32 × Mm)) = some out := h
    cases h
  | succ n ih =>
    intro a0 a1 M hB ra0 h
    rw [fX3_mss_L8] at h
    have hS : Sm RX M M := Sm.rf
    obtain ⟨v1, ev1, h⟩ := bd h
    by_cases hc : v1 ≤ a1
    · have h := (if_pos hc).symm.trans h
      obtain rfl := Option.some.inj h
      exact ⟨hS, hB⟩
    · have h := (if_neg hc).symm.trans h
      obtain ⟨v2, ev2, h⟩ := bd h
      have iv2 := gR_in hB (show 3 ≤ 11 from by decide) ev2
      obtain ⟨v4, M3, eM3, h⟩ := b2d h
      have w := oX11_one fu  v2 a1 M hB iv2 eM3
      have hS := hS.tr w.1
      have hB := w.2
      by_cases hc : v4 = 0
      · have h := (if_pos hc).symm.trans h
        obtain rfl := Option.some.inj h
        exact ⟨hS, hB⟩
      · have h := (if_neg hc).symm.trans h
        by_cases hc : v4 = (1 : Int32)
        · have h := (if_pos hc).symm.trans h
          have z := oX3_mss_L114 fu (fun b0 b1 M => fX3_mss_L8 fu  n b0 b1 M) ih a0 a1 (1 : Int32) M3 hB ra0 h
          exact ⟨hS.tr z.1, z.2⟩
        · have h := (if_neg hc).symm.trans h
          obtain ⟨v5, ev5, h⟩ := bd h
          by_cases hc : v5 ≤ (a1 + (1 : Int32))
          · have h := (if_pos hc).symm.trans h
            have z := oX3_mss_L63 fu (fun b0 b1 M => fX3_mss_L8 fu  n b0 b1 M) ih a0 a1 v4 (0 : Int32) M3 hB ra0 h
            exact ⟨hS.tr z.1, z.2⟩
          · have h := (if_neg hc).symm.trans h
            obtain ⟨v6, ev6, h⟩ := bd h
            have iv6 := gR_in hB (show 3 ≤ 11 from by decide) ev6
            obtain ⟨v8, M7, eM7, h⟩ := b2d h
            have w := oX11_one fu  v6 (a1 + (1 : Int32)) M3 hB iv6 eM7
            have hS := hS.tr w.1
            have hB := w.2
            have z := oX3_mss_L63 fu (fun b0 b1 M => fX3_mss_L8 fu  n b0 b1 M) ih a0 a1 v4 v8 M7 hB ra0 h
            exact ⟨hS.tr z.1, z.2⟩
theorem oX3_mss (fu : Nat)   (a0 : Nat)  (M : Mm) {out : Int32 × Mm} (hB : Bd RX TX M) (ra0 : RX a0) (h : fX3_mss fu  a0 M = some out) : Sm RX M out.2 ∧ Bd RX TX out.2 := by
  unfold fX3_mss at h
  have hS : Sm RX M M := Sm.rf
  obtain ⟨v1, ev1, h⟩ := bd h
  have z := oX3_mss_L8 fu   fu a0 (v1 + (20 : Int32)) M hB ra0 h
  exact ⟨hS.tr z.1, z.2⟩
theorem oX5_begin_L22 (fu : Nat)   (a0 : Nat) (s0 : Option Nat) (s1 : Int32) (M : Mm) {out : Mm} (hB : Bd RX TX M) (ra0 : RX a0) (is0 : inR RX s0) (h : fX5_begin_L22 fu  a0 s0 s1 M = some out) : Sm RX M out ∧ Bd RX TX out := by
  unfold fX5_begin_L22 at h
  have hS : Sm RX M M := Sm.rf
  obtain ⟨M1, eM1, h⟩ := bd h
  have w := pF_own hB (show 5 ≤ 11 from by decide) eM1
  have hS := hS.tr w.1
  have hB := w.2
  obtain ⟨M2, eM2, h⟩ := bd h
  have w := pF_own hB (show 5 ≤ 11 from by decide) eM2
  have hS := hS.tr w.1
  have hB := w.2
  obtain ⟨M3, eM3, h⟩ := bd h
  have w := pF_own hB (show 5 ≤ 11 from by decide) eM3
  have hS := hS.tr w.1
  have hB := w.2
  obtain ⟨M4, eM4, h⟩ := bd h
  have w := pF_own hB (show 5 ≤ 11 from by decide) eM4
  have hS := hS.tr w.1
  have hB := w.2
  obtain ⟨M5, eM5, h⟩ := bd h
  have w := pF_own hB (show 5 ≤ 11 from by decide) eM5
  have hS := hS.tr w.1
  have hB := w.2
  obtain ⟨M6, eM6, h⟩ := bd h
  have w := pF_own hB (show 5 ≤ 11 from by decide) eM6
  have hS := hS.tr w.1
  have hB := w.2
  obtain ⟨M7, eM7, h⟩ := bd h
  have w := pZ_own hB (show 5 ≤ 11 from by decide) eM7
  have hS := hS.tr w.1
  have hB := w.2
  obtain ⟨M8, eM8, h⟩ := bd h
  have w := pZ_own hB (show 5 ≤ 11 from by decide) eM8
  have hS := hS.tr w.1
  have hB := w.2
  obtain ⟨M9, eM9, h⟩ := bd h
  have w := pZ_own hB (show 5 ≤ 11 from by decide) eM9
  have hS := hS.tr w.1
  have hB := w.2
  obtain ⟨M10, eM10, h⟩ := bd h
  have w := pF_own hB (show 5 ≤ 11 from by decide) eM10
  have hS := hS.tr w.1
  have hB := w.2
  obtain ⟨M11, eM11, h⟩ := bd h
  have w := pF_own hB (show 5 ≤ 11 from by decide) eM11
  have hS := hS.tr w.1
  have hB := w.2
  obtain rfl := Option.some.inj h
  exact ⟨hS, hB⟩
theorem oX5_begin (fu : Nat)   (a0 : Nat) (a1 : Int32)  (M : Mm) {out : Mm} (hB : Bd RX TX M) (ra0 : RX a0) (h : fX5_begin fu  a0 a1 M = some out) : Sm RX M out ∧ Bd RX TX out := by
  unfold fX5_begin at h
  have hS : Sm RX M M := Sm.rf
  obtain ⟨M1, eM1, h⟩ := bd h
  have w := pF_own hB (show 5 ≤ 11 from by decide) eM1
  have hS := hS.tr w.1
  have hB := w.2
  by_cases hc : (1095 : Int32) < a1
  · have h := (if_pos hc).symm.trans h
    have z := oX5_begin_L22 fu   a0 (some a0) ((3 : Int32) * a1) M1 hB ra0 (inR_some ra0) h
    exact ⟨hS.tr z.1, z.2⟩
  · have h := (if_neg hc).symm.trans h
    have z := oX5_begin_L22 fu   a0 (some a0) ((4 : Int32) * a1) M1 hB ra0 (inR_some ra0) h
    exact ⟨hS.tr z.1, z.2⟩
theorem oX1_begin (fu : Nat)   (a0 : Nat) (a1 : Option Nat) (a2 : Int32)  (M : Mm) {out : Mm} (hB : Bd RX TX M) (ra0 : RX a0) (ia1 : inR RX a1) (h : fX1_begin fu  a0 a1 a2 M = some out) : Sm RX M out ∧ Bd RX TX out := by
  unfold fX1_begin at h
  have hS : Sm RX M M := Sm.rf
  obtain ⟨M1, eM1, h⟩ := bd h
  have w := pF_own hB (show 1 ≤ 11 from by decide) eM1
  have hS := hS.tr w.1
  have hB := w.2
  obtain ⟨v2, ev2, h⟩ := bd h
  obtain ⟨M3, eM3, h⟩ := bd h
  have w := pF_own hB (show 1 ≤ 11 from by decide) eM3
  have hS := hS.tr w.1
  have hB := w.2
  obtain ⟨v4, ev4, h⟩ := bd h
  obtain ⟨M5, eM5, h⟩ := bd h
  have w := pF_own hB (show 1 ≤ 11 from by decide) eM5
  have hS := hS.tr w.1
  have hB := w.2
  obtain ⟨M6, eM6, h⟩ := bd h
  have w := pF_own hB (show 1 ≤ 11 from by decide) eM6
  have hS := hS.tr w.1
  have hB := w.2
  obtain ⟨M7, eM7, h⟩ := bd h
  have w := pF_own hB (show 1 ≤ 11 from by decide) eM7
  have hS := hS.tr w.1
  have hB := w.2
  obtain ⟨M8, eM8, h⟩ := bd h
  have w := pF_own hB (show 1 ≤ 11 from by decide) eM8
  have hS := hS.tr w.1
  have hB := w.2
  obtain ⟨M9, eM9, h⟩ := bd h
  have w := pF_own hB (show 1 ≤ 11 from by decide) eM9
  have hS := hS.tr w.1
  have hB := w.2
  obtain ⟨v10, ev10, h⟩ := bd h
  obtain ⟨M11, eM11, h⟩ := bd h
  have w := pF_own hB (show 1 ≤ 11 from by decide) eM11
  have hS := hS.tr w.1
  have hB := w.2
  obtain ⟨v12, ev12, h⟩ := bd h
  obtain ⟨M13, eM13, h⟩ := bd h
  have w := pF_own hB (show 1 ≤ 11 from by decide) eM13
  have hS := hS.tr w.1
  have hB := w.2
  obtain ⟨M14, eM14, h⟩ := bd h
  have w := pF_own hB (show 1 ≤ 11 from by decide) eM14
  have hS := hS.tr w.1
  have hB := w.2
  obtain ⟨q15, eq15, h⟩ := bd h
  have rq15 := rc_in hB (show 1 ≤ 11 from by decide) eq15
  obtain ⟨M16, eM16, h⟩ := bd h
  have w := oX1_clearAnswer fu q15 (a2 + (1 : Int32)) M14 hB rq15 eM16
  have hS := hS.tr w.1
  have hB := w.2
  obtain ⟨v17, ev17, h⟩ := bd h
  have iv17 := gR_in hB (show 1 ≤ 11 from by decide) ev17
  obtain ⟨v18, ev18, h⟩ := bd h
  obtain ⟨q19, eq19, h⟩ := bd h
  have rq19 := rc_in hB (show 0 ≤ 11 from by decide) eq19
  obtain ⟨M20, eM20, h⟩ := bd h
  have w := oX0_begin fu q19 (v18 + (1 : Int32)) M16 hB rq19 eM20
  have hS := hS.tr w.1
  have hB := w.2
  obtain ⟨v21, ev21, h⟩ := bd h
  have iv21 := gR_in hB (show 1 ≤ 11 from by decide) ev21
  obtain ⟨q22, eq22, h⟩ := bd h
  have rq22 := rc_in hB (show 3 ≤ 11 from by decide) eq22
  obtain ⟨v24, M23, eM23, h⟩ := b2d h
  have w := oX3_mss fu q22  M20 hB rq22 eM23
  have hS := hS.tr w.1
  have hB := w.2
  obtain ⟨q25, eq25, h⟩ := bd h
  have rq25 := rc_in hB (show 5 ≤ 11 from by decide) eq25
  obtain ⟨M26, eM26, h⟩ := bd h
  have w := oX5_begin fu q25 v24 M23 hB rq25 eM26
  have hS := hS.tr w.1
  have hB := w.2
  obtain rfl := Option.some.inj h
  exact ⟨hS, hB⟩
theorem oX1_leave (fu : Nat)   (a0 : Nat)  (M : Mm) {out : Mm} (hB : Bd RX TX M) (ra0 : RX a0) (h : fX1_leave fu  a0 M = some out) : Sm RX M out ∧ Bd RX TX out := by
  unfold fX1_leave at h
  have hS : Sm RX M M := Sm.rf
  obtain ⟨M1, eM1, h⟩ := bd h
  have w := pF_own hB (show 1 ≤ 11 from by decide) eM1
  have hS := hS.tr w.1
  have hB := w.2
  obtain ⟨v2, ev2, h⟩ := bd h
  have iv2 := gR_in hB (show 1 ≤ 11 from by decide) ev2
  obtain ⟨M3, eM3, h⟩ := bd h
  have w := pF_own hB (show 5 ≤ 11 from by decide) eM3
  have hS := hS.tr w.1
  have hB := w.2
  obtain rfl := Option.some.inj h
  exact ⟨hS, hB⟩
theorem oJ0_coder_7d493 {R T : Nat → Prop} (fu : Nat)   (a0 : Nat)  (M : Mm) {out : Int32 × Mm} (hB : Bd R T M)  (h : fJ0_coder_7d493 fu  a0 M = some out) : Sm R M out.2 ∧ Bd R T out.2 := by
  unfold fJ0_coder_7d493 at h
  have hS : Sm R M M := Sm.rf
  by_cases hc : (1 : Int32) = 0
  · have h := (if_pos hc).symm.trans h
    obtain ⟨hz, rfl⟩ := rN_some h
    exact ⟨hS, hB⟩
  · have h := (if_neg hc).symm.trans h
    obtain ⟨v1, ev1, h⟩ := bd h
    obtain ⟨hz, rfl⟩ := rN_some h
    exact ⟨hS, hB⟩
theorem oJ0_length_8abf5 {R T : Nat → Prop} (fu : Nat)   (a0 : Nat)  (M : Mm) {out : Int32 × Mm} (hB : Bd R T M)  (h : fJ0_length_8abf5 fu  a0 M = some out) : Sm R M out.2 ∧ Bd R T out.2 := by
  unfold fJ0_length_8abf5 at h
  have hS : Sm R M M := Sm.rf
  obtain ⟨v1, ev1, h⟩ := bd h
  obtain ⟨v2, ev2, h⟩ := bd h
  obtain ⟨q3, eq3, h⟩ := bd h
  obtain ⟨v5, M4, eM4, h⟩ := b2d h
  have w := oJ0_coder_7d493 fu q3  M hB  eM4
  have hS := hS.tr w.1
  have hB := w.2
  obtain rfl := Option.some.inj h
  exact ⟨hS, hB⟩
theorem oJ0_isLatin1_aae02 {R T : Nat → Prop} (fu : Nat)   (a0 : Nat)  (M : Mm) {out : Int32 × Mm} (hB : Bd R T M)  (h : fJ0_isLatin1_aae02 fu  a0 M = some out) : Sm R M out.2 ∧ Bd R T out.2 := by
  unfold fJ0_isLatin1_aae02 at h
  have hS : Sm R M M := Sm.rf
  by_cases hc : (1 : Int32) = 0
  · have h := (if_pos hc).symm.trans h
    obtain ⟨hz, rfl⟩ := rN_some h
    exact ⟨hS, hB⟩
  · have h := (if_neg hc).symm.trans h
    obtain ⟨v1, ev1, h⟩ := bd h
    by_cases hc : v1 = 0
    · have h := (if_pos hc).symm.trans h
      obtain ⟨hz, rfl⟩ := rN_some h
      exact ⟨hS, hB⟩
    · have h := (if_neg hc).symm.trans h
      obtain ⟨hz, rfl⟩ := rN_some h
      exact ⟨hS, hB⟩
theorem oJ3_checkIndex_8e157_L9 {R T : Nat → Prop} (fu : Nat)   (a0 : Int32) (a1 : Int32) (a2 : Option Nat)  (M : Mm) {out : Int32 × Mm} (hB : Bd R T M)  (h : fJ3_checkIndex_8e157_L9 fu  a0 a1 a2 M = some out) : Sm R M out.2 ∧ Bd R T out.2 := by
  unfold fJ3_checkIndex_8e157_L9 at h
  have hS : Sm R M M := Sm.rf
  cases h
theorem oJ3_checkIndex_8e157 {R T : Nat → Prop} (fu : Nat)   (a0 : Int32) (a1 : Int32) (a2 : Option Nat)  (M : Mm) {out : Int32 × Mm} (hB : Bd R T M)  (h : fJ3_checkIndex_8e157 fu  a0 a1 a2 M = some out) : Sm R M out.2 ∧ Bd R T out.2 := by
  unfold fJ3_checkIndex_8e157 at h
  have hS : Sm R M M := Sm.rf
  by_cases hc : a0 < 0
  · have h := (if_pos hc).symm.trans h
    have z := oJ3_checkIndex_8e157_L9 fu   a0 a1 a2 M hB  h
    exact ⟨hS.tr z.1, z.2⟩
  · have h := (if_neg hc).symm.trans h
    by_cases hc : a0 < a1
    · have h := (if_pos hc).symm.trans h
      obtain rfl := Option.some.inj h
      exact ⟨hS, hB⟩
    · have h := (if_neg hc).symm.trans h
      have z := oJ3_checkIndex_8e157_L9 fu   a0 a1 a2 M hB  h
      exact ⟨hS.tr z.1, z.2⟩
theorem oJ0_checkIndex_df160 {R T : Nat → Prop} (fu : Nat)   (a0 : Int32) (a1 : Int32)  (M : Mm) {out : Mm} (hB : Bd R T M)  (h : fJ0_checkIndex_df160 fu  a0 a1 M = some out) : Sm R M out ∧ Bd R T out := by
  unfold fJ0_checkIndex_df160 at h
  have hS : Sm R M M := Sm.rf
  obtain ⟨v2, M1, eM1, h⟩ := b2d h
  have w := oJ3_checkIndex_8e157 fu  a0 a1 none M hB  eM1
  have hS := hS.tr w.1
  have hB := w.2
  obtain rfl := Option.some.inj h
  exact ⟨hS, hB⟩
theorem oJ1_charAt_3b067 {R T : Nat → Prop} (fu : Nat)   (a0 : Option Nat) (a1 : Int32)  (M : Mm) {out : Int32 × Mm} (hB : Bd R T M)  (h : fJ1_charAt_3b067 fu  a0 a1 M = some out) : Sm R M out.2 ∧ Bd R T out.2 := by
  unfold fJ1_charAt_3b067 at h
  have hS : Sm R M M := Sm.rf
  obtain ⟨v1, ev1, h⟩ := bd h
  obtain ⟨M2, eM2, h⟩ := bd h
  have w := oJ0_checkIndex_df160 fu  a1 v1 M hB  eM2
  have hS := hS.tr w.1
  have hB := w.2
  obtain ⟨v3, ev3, h⟩ := bd h
  obtain ⟨hz, rfl⟩ := rN_some h
  exact ⟨hS, hB⟩
theorem oJ2_length_9d52b {R T : Nat → Prop} (fu : Nat)   (a0 : Option Nat)  (M : Mm) {out : Int32 × Mm} (hB : Bd R T M)  (h : fJ2_length_9d52b fu  a0 M = some out) : Sm R M out.2 ∧ Bd R T out.2 := by
  unfold fJ2_length_9d52b at h
  have hS : Sm R M M := Sm.rf
  obtain ⟨v1, ev1, h⟩ := bd h
  obtain rfl := Option.some.inj h
  exact ⟨hS, hB⟩
theorem oJ2_checkIndex_2214a {R T : Nat → Prop} (fu : Nat)   (a0 : Int32) (a1 : Option Nat)  (M : Mm) {out : Mm} (hB : Bd R T M)  (h : fJ2_checkIndex_2214a fu  a0 a1 M = some out) : Sm R M out ∧ Bd R T out := by
  unfold fJ2_checkIndex_2214a at h
  have hS : Sm R M M := Sm.rf
  obtain ⟨v2, M1, eM1, h⟩ := b2d h
  have w := oJ2_length_9d52b fu  a1 M hB  eM1
  have hS := hS.tr w.1
  have hB := w.2
  obtain ⟨M3, eM3, h⟩ := bd h
  have w := oJ0_checkIndex_df160 fu  a0 v2 M1 hB  eM3
  have hS := hS.tr w.1
  have hB := w.2
  obtain rfl := Option.some.inj h
  exact ⟨hS, hB⟩
theorem oJ2_charAt_3b067 {R T : Nat → Prop} (fu : Nat)   (a0 : Option Nat) (a1 : Int32)  (M : Mm) {out : Int32 × Mm} (hB : Bd R T M)  (h : fJ2_charAt_3b067 fu  a0 a1 M = some out) : Sm R M out.2 ∧ Bd R T out.2 := by
  unfold fJ2_charAt_3b067 at h
  have hS : Sm R M M := Sm.rf
  obtain ⟨M1, eM1, h⟩ := bd h
  have w := oJ2_checkIndex_2214a fu  a1 a0 M hB  eM1
  have hS := hS.tr w.1
  have hB := w.2
  cases h
theorem oJ0_charAt_5068e {R T : Nat → Prop} (fu : Nat)   (a0 : Nat) (a1 : Int32)  (M : Mm) {out : Int32 × Mm} (hB : Bd R T M)  (h : fJ0_charAt_5068e fu  a0 a1 M = some out) : Sm R M out.2 ∧ Bd R T out.2 := by
  unfold fJ0_charAt_5068e at h
  have hS : Sm R M M := Sm.rf
  obtain ⟨q1, eq1, h⟩ := bd h
  obtain ⟨v3, M2, eM2, h⟩ := b2d h
  have w := oJ0_isLatin1_aae02 fu q1  M hB  eM2
  have hS := hS.tr w.1
  have hB := w.2
  by_cases hc : v3 = 0
  · have h := (if_pos hc).symm.trans h
    obtain ⟨v4, ev4, h⟩ := bd h
    obtain ⟨v6, M5, eM5, h⟩ := b2d h
    have w := oJ2_charAt_3b067 fu  v4 a1 M2 hB  eM5
    have hS := hS.tr w.1
    have hB := w.2
    obtain ⟨hz, rfl⟩ := rN_some h
    exact ⟨hS, hB⟩
  · have h := (if_neg hc).symm.trans h
    obtain ⟨v7, ev7, h⟩ := bd h
    obtain ⟨v9, M8, eM8, h⟩ := b2d h
    have w := oJ1_charAt_3b067 fu  v7 a1 M2 hB  eM8
    have hS := hS.tr w.1
    have hB := w.2
    obtain ⟨hz, rfl⟩ := rN_some h
    exact ⟨hS, hB⟩
theorem oX1_writeCode (fu : Nat)   (a0 : Nat) (a1 : Int32)  (M : Mm) {out : Mm} (hB : Bd RX TX M) (ra0 : RX a0) (h : fX1_writeCode fu  a0 a1 M = some out) : Sm RX M out ∧ Bd RX TX out := by
  unfold fX1_writeCode at h
  have hS : Sm RX M M := Sm.rf
  obtain ⟨v1, ev1, h⟩ := bd h
  by_cases hc : (256 : Int32) ≤ v1
  · have h := (if_pos hc).symm.trans h
    obtain rfl := Option.some.inj h
    exact ⟨hS, hB⟩
  · have h := (if_neg hc).symm.trans h
    obtain ⟨v2, ev2, h⟩ := bd h
    have iv2 := gR_in hB (show 1 ≤ 11 from by decide) ev2
    obtain ⟨v3, ev3, h⟩ := bd h
    obtain ⟨M4, eM4, h⟩ := bd h
    have w := pA_ownB hB iv2 eM4
    have hS := hS.tr w.1
    have hB := w.2
    obtain ⟨v5, ev5, h⟩ := bd h
    obtain ⟨M6, eM6, h⟩ := bd h
    have w := pF_own hB (show 1 ≤ 11 from by decide) eM6
    have hS := hS.tr w.1
    have hB := w.2
    obtain rfl := Option.some.inj h
    exact ⟨hS, hB⟩
theorem oX1_write_L2 (fu : Nat) {out : Mm}   : ∀ (n : Nat) (a0 : Nat) (a1 : Option Nat) (a2 : Int32)  (M : Mm), Bd RX TX M → RX a0 → fX1_write_L2 fu  n a0 a1 a2 M = some out → Sm RX M out ∧ Bd RX TX out := by
  intro n
  induction n with
  | zero =>
    intro a0 a1 a2 M hB ra0 h
    have h : (none : Option (Mm)) = some out := h
    cases h
  | succ n ih =>
    intro a0 a1 a2 M hB ra0 h
    rw [fX1_write_L2] at h
    have hS : Sm RX M M := Sm.rf
    obtain ⟨q1, eq1, h⟩ := bd h
    obtain ⟨v3, M2, eM2, h⟩ := b2d h
    have w := oJ0_length_8abf5 fu q1  M hB  eM2
    have hS := hS.tr w.1
    have hB := w.2
    by_cases hc : v3 ≤ a2
    · have h := (if_pos hc).symm.trans h
      obtain rfl := Option.some.inj h
      exact ⟨hS, hB⟩
    · have h := (if_neg hc).symm.trans h
      obtain ⟨q4, eq4, h⟩ := bd h
      obtain ⟨v6, M5, eM5, h⟩ := b2d h
      have w := oJ0_charAt_5068e fu q4 a2 M2 hB  eM5
      have hS := hS.tr w.1
      have hB := w.2
      obtain ⟨q7, eq7, h⟩ := bd h
      have rq7 := rc_in hB (show 1 ≤ 11 from by decide) eq7
      obtain ⟨M8, eM8, h⟩ := bd h
      have w := oX1_writeCode fu q7 v6 M5 hB rq7 eM8
      have hS := hS.tr w.1
      have hB := w.2
      have z := ih a0 a1 (a2 + (1 : Int32)) M8 hB ra0 h
      exact ⟨hS.tr z.1, z.2⟩
theorem oX1_write (fu : Nat)   (a0 : Nat) (a1 : Option Nat)  (M : Mm) {out : Mm} (hB : Bd RX TX M) (ra0 : RX a0) (h : fX1_write fu  a0 a1 M = some out) : Sm RX M out ∧ Bd RX TX out := by
  unfold fX1_write at h
  have hS : Sm RX M M := Sm.rf
  have z := oX1_write_L2 fu   fu a0 a1 (0 : Int32) M hB ra0 h
  exact ⟨hS.tr z.1, z.2⟩
theorem oX1_writeNumber_L24 (fu : Nat) {out : Mm}   : ∀ (n : Nat) (a0 : Nat) (a1 : Int32) (a2 : Int32)  (M : Mm), Bd RX TX M → RX a0 → fX1_writeNumber_L24 fu  n a0 a1 a2 M = some out → Sm RX M out ∧ Bd RX TX out := by
  intro n
  induction n with
  | zero =>
    intro a0 a1 a2 M hB ra0 h
    have h : (none : Option (Mm)) = some out := h
    cases h
  | succ n ih =>
    intro a0 a1 a2 M hB ra0 h
    rw [fX1_writeNumber_L24] at h
    have hS : Sm RX M M := Sm.rf
    by_cases hc : a2 ≤ 0
    · have h := (if_pos hc).symm.trans h
      obtain rfl := Option.some.inj h
      exact ⟨hS, hB⟩
    · have h := (if_neg hc).symm.trans h
      by_cases hz : a2 = 0
      · rw [if_pos hz] at h; cases h
      have h := (if_neg hz).symm.trans h
      obtain ⟨q1, eq1, h⟩ := bd h
      have rq1 := rc_in hB (show 1 ≤ 11 from by decide) eq1
      obtain ⟨M2, eM2, h⟩ := bd h
      have w := oX1_writeCode fu q1 ((48 : Int32) + (irm (a1 / a2) (10 : Int32))) M hB rq1 eM2
      have hS := hS.tr w.1
      have hB := w.2
      have z := ih a0 a1 (a2 / (10 : Int32)) M2 hB ra0 h
      exact ⟨hS.tr z.1, z.2⟩
theorem oX1_writeNumber_L2 (fu : Nat) {out : Mm}   : ∀ (n : Nat) (a0 : Nat) (a1 : Int32) (a2 : Int32)  (M : Mm), Bd RX TX M → RX a0 → fX1_writeNumber_L2 fu  n a0 a1 a2 M = some out → Sm RX M out ∧ Bd RX TX out := by
  intro n
  induction n with
  | zero =>
    intro a0 a1 a2 M hB ra0 h
    have h : (none : Option (Mm)) = some out := h
    cases h
  | succ n ih =>
    intro a0 a1 a2 M hB ra0 h
    rw [fX1_writeNumber_L2] at h
    have hS : Sm RX M M := Sm.rf
    by_cases hc : (a1 / (10 : Int32)) < a2
    · have h := (if_pos hc).symm.trans h
      have z := oX1_writeNumber_L24 fu   fu a0 a1 a2 M hB ra0 h
      exact ⟨hS.tr z.1, z.2⟩
    · have h := (if_neg hc).symm.trans h
      by_cases hc : (1000000000 : Int32) ≤ a2
      · have h := (if_pos hc).symm.trans h
        have z := oX1_writeNumber_L24 fu   fu a0 a1 a2 M hB ra0 h
        exact ⟨hS.tr z.1, z.2⟩
      · have h := (if_neg hc).symm.trans h
        have z := ih a0 a1 (a2 * (10 : Int32)) M hB ra0 h
        exact ⟨hS.tr z.1, z.2⟩
theorem oX1_writeNumber (fu : Nat)   (a0 : Nat) (a1 : Int32)  (M : Mm) {out : Mm} (hB : Bd RX TX M) (ra0 : RX a0) (h : fX1_writeNumber fu  a0 a1 M = some out) : Sm RX M out ∧ Bd RX TX out := by
  unfold fX1_writeNumber at h
  have hS : Sm RX M M := Sm.rf
  have z := oX1_writeNumber_L2 fu   fu a0 a1 (1 : Int32) M hB ra0 h
  exact ⟨hS.tr z.1, z.2⟩
theorem oX11_hexCode (fu : Nat)   (a0 : Int32)  (M : Mm) {out : Int32 × Mm} (hB : Bd RX TX M)  (h : fX11_hexCode fu  a0 M = some out) : Sm RX M out.2 ∧ Bd RX TX out.2 := by
  unfold fX11_hexCode at h
  have hS : Sm RX M M := Sm.rf
  by_cases hc : (10 : Int32) ≤ (a0 &&& (15 : Int32))
  · have h := (if_pos hc).symm.trans h
    obtain rfl := Option.some.inj h
    exact ⟨hS, hB⟩
  · have h := (if_neg hc).symm.trans h
    obtain rfl := Option.some.inj h
    exact ⟨hS, hB⟩
theorem oX1_writeMark_L9 (fu : Nat) {out : Mm}   : ∀ (n : Nat) (a0 : Nat) (a1 : Int32) (a2 : Int32)  (M : Mm), Bd RX TX M → RX a0 → fX1_writeMark_L9 fu  n a0 a1 a2 M = some out → Sm RX M out ∧ Bd RX TX out := by
  intro n
  induction n with
  | zero =>
    intro a0 a1 a2 M hB ra0 h
    have h : (none : Option (Mm)) = some out := h
    cases h
  | succ n ih =>
    intro a0 a1 a2 M hB ra0 h
    rw [fX1_writeMark_L9] at h
    have hS : Sm RX M M := Sm.rf
    by_cases hc : a2 < 0
    · have h := (if_pos hc).symm.trans h
      obtain ⟨q1, eq1, h⟩ := bd h
      have rq1 := rc_in hB (show 1 ≤ 11 from by decide) eq1
      obtain ⟨M2, eM2, h⟩ := bd h
      have w := oX1_writeCode fu q1 (34 : Int32) M hB rq1 eM2
      have hS := hS.tr w.1
      have hB := w.2
      obtain rfl := Option.some.inj h
      exact ⟨hS, hB⟩
    · have h := (if_neg hc).symm.trans h
      obtain ⟨v4, M3, eM3, h⟩ := b2d h
      have w := oX11_hexCode fu  (ushr a1 a2) M hB  eM3
      have hS := hS.tr w.1
      have hB := w.2
      obtain ⟨q5, eq5, h⟩ := bd h
      have rq5 := rc_in hB (show 1 ≤ 11 from by decide) eq5
      obtain ⟨M6, eM6, h⟩ := bd h
      have w := oX1_writeCode fu q5 v4 M3 hB rq5 eM6
      have hS := hS.tr w.1
      have hB := w.2
      have z := ih a0 a1 (a2 + (-4 : Int32)) M6 hB ra0 h
      exact ⟨hS.tr z.1, z.2⟩
theorem oX1_writeMark (fu : Nat)   (a0 : Nat) (a1 : Int32)  (M : Mm) {out : Mm} (hB : Bd RX TX M) (ra0 : RX a0) (h : fX1_writeMark fu  a0 a1 M = some out) : Sm RX M out ∧ Bd RX TX out := by
  unfold fX1_writeMark at h
  have hS : Sm RX M M := Sm.rf
  obtain ⟨q1, eq1, h⟩ := bd h
  have rq1 := rc_in hB (show 1 ≤ 11 from by decide) eq1
  obtain ⟨M2, eM2, h⟩ := bd h
  have w := oX1_writeCode fu q1 (34 : Int32) M hB rq1 eM2
  have hS := hS.tr w.1
  have hB := w.2
  have z := oX1_writeMark_L9 fu   fu a0 a1 (28 : Int32) M2 hB ra0 h
  exact ⟨hS.tr z.1, z.2⟩
theorem oX1_dataEnd (fu : Nat)   (a0 : Nat)  (M : Mm) {out : Int32 × Mm} (hB : Bd RX TX M) (ra0 : RX a0) (h : fX1_dataEnd fu  a0 M = some out) : Sm RX M out.2 ∧ Bd RX TX out.2 := by
  unfold fX1_dataEnd at h
  have hS : Sm RX M M := Sm.rf
  obtain ⟨v1, ev1, h⟩ := bd h
  obtain ⟨v2, ev2, h⟩ := bd h
  obtain ⟨v3, ev3, h⟩ := bd h
  obtain rfl := Option.some.inj h
  exact ⟨hS, hB⟩
theorem oX1_left (fu : Nat)   (a0 : Nat)  (M : Mm) {out : Int32 × Mm} (hB : Bd RX TX M) (ra0 : RX a0) (h : fX1_left fu  a0 M = some out) : Sm RX M out.2 ∧ Bd RX TX out.2 := by
  unfold fX1_left at h
  have hS : Sm RX M M := Sm.rf
  obtain ⟨q1, eq1, h⟩ := bd h
  have rq1 := rc_in hB (show 1 ≤ 11 from by decide) eq1
  obtain ⟨v3, M2, eM2, h⟩ := b2d h
  have w := oX1_dataEnd fu q1  M hB rq1 eM2
  have hS := hS.tr w.1
  have hB := w.2
  obtain ⟨v4, ev4, h⟩ := bd h
  obtain ⟨v5, ev5, h⟩ := bd h
  by_cases hc : v5 = 0
  · have h := (if_pos hc).symm.trans h
    obtain rfl := Option.some.inj h
    exact ⟨hS, hB⟩
  · have h := (if_neg hc).symm.trans h
    obtain rfl := Option.some.inj h
    exact ⟨hS, hB⟩
theorem oX1_isBusy (fu : Nat)   (a0 : Nat)  (M : Mm) {out : Int32 × Mm} (hB : Bd RX TX M) (ra0 : RX a0) (h : fX1_isBusy fu  a0 M = some out) : Sm RX M out.2 ∧ Bd RX TX out.2 := by
  unfold fX1_isBusy at h
  have hS : Sm RX M M := Sm.rf
  obtain ⟨q1, eq1, h⟩ := bd h
  have rq1 := rc_in hB (show 1 ≤ 11 from by decide) eq1
  obtain ⟨v3, M2, eM2, h⟩ := b2d h
  have w := oX1_left fu q1  M hB rq1 eM2
  have hS := hS.tr w.1
  have hB := w.2
  by_cases hc : 0 < v3
  · have h := (if_pos hc).symm.trans h
    obtain ⟨hz, rfl⟩ := rN_some h
    exact ⟨hS, hB⟩
  · have h := (if_neg hc).symm.trans h
    obtain ⟨v4, ev4, h⟩ := bd h
    obtain ⟨v5, ev5, h⟩ := bd h
    by_cases hc : v4 = v5
    · have h := (if_pos hc).symm.trans h
      obtain ⟨hz, rfl⟩ := rN_some h
      exact ⟨hS, hB⟩
    · have h := (if_neg hc).symm.trans h
      obtain ⟨hz, rfl⟩ := rN_some h
      exact ⟨hS, hB⟩
theorem oX1_isReady_L17 (fu : Nat)   (a0 : Nat)  (M : Mm) {out : Int32 × Mm} (hB : Bd RX TX M) (ra0 : RX a0) (h : fX1_isReady_L17 fu  a0 M = some out) : Sm RX M out.2 ∧ Bd RX TX out.2 := by
  unfold fX1_isReady_L17 at h
  have hS : Sm RX M M := Sm.rf
  obtain ⟨v1, ev1, h⟩ := bd h
  by_cases hc : v1 = 0
  · have h := (if_pos hc).symm.trans h
    obtain ⟨q2, eq2, h⟩ := bd h
    have rq2 := rc_in hB (show 1 ≤ 11 from by decide) eq2
    obtain ⟨v4, M3, eM3, h⟩ := b2d h
    have w := oX1_left fu q2  M hB rq2 eM3
    have hS := hS.tr w.1
    have hB := w.2
    by_cases hc : v4 = 0
    · have h := (if_pos hc).symm.trans h
      obtain ⟨v5, ev5, h⟩ := bd h
      obtain ⟨v6, ev6, h⟩ := bd h
      by_cases hc : v5 = v6
      · have h := (if_pos hc).symm.trans h
        obtain ⟨hz, rfl⟩ := rN_some h
        exact ⟨hS, hB⟩
      · have h := (if_neg hc).symm.trans h
        obtain ⟨hz, rfl⟩ := rN_some h
        exact ⟨hS, hB⟩
    · have h := (if_neg hc).symm.trans h
      obtain ⟨hz, rfl⟩ := rN_some h
      exact ⟨hS, hB⟩
  · have h := (if_neg hc).symm.trans h
    obtain ⟨hz, rfl⟩ := rN_some h
    exact ⟨hS, hB⟩
theorem oX1_isReady (fu : Nat)   (a0 : Nat)  (M : Mm) {out : Int32 × Mm} (hB : Bd RX TX M) (ra0 : RX a0) (h : fX1_isReady fu  a0 M = some out) : Sm RX M out.2 ∧ Bd RX TX out.2 := by
  unfold fX1_isReady at h
  have hS : Sm RX M M := Sm.rf
  obtain ⟨v1, ev1, h⟩ := bd h
  by_cases hc : v1 = (2 : Int32)
  · have h := (if_pos hc).symm.trans h
    have z := oX1_isReady_L17 fu   a0 M hB ra0 h
    exact ⟨hS.tr z.1, z.2⟩
  · have h := (if_neg hc).symm.trans h
    obtain ⟨v2, ev2, h⟩ := bd h
    by_cases hc : v2 = (7 : Int32)
    · have h := (if_pos hc).symm.trans h
      have z := oX1_isReady_L17 fu   a0 M hB ra0 h
      exact ⟨hS.tr z.1, z.2⟩
    · have h := (if_neg hc).symm.trans h
      obtain ⟨hz, rfl⟩ := rN_some h
      exact ⟨hS, hB⟩
theorem oX1_segmentFrom (fu : Nat)   (a0 : Nat) (a1 : Int32)  (M : Mm) {out : Int32 × Mm} (hB : Bd RX TX M) (ra0 : RX a0) (h : fX1_segmentFrom fu  a0 a1 M = some out) : Sm RX M out.2 ∧ Bd RX TX out.2 := by
  unfold fX1_segmentFrom at h
  have hS : Sm RX M M := Sm.rf
  obtain ⟨q1, eq1, h⟩ := bd h
  have rq1 := rc_in hB (show 1 ≤ 11 from by decide) eq1
  obtain ⟨v3, M2, eM2, h⟩ := b2d h
  have w := oX1_dataEnd fu q1  M hB rq1 eM2
  have hS := hS.tr w.1
  have hB := w.2
  obtain ⟨v4, ev4, h⟩ := bd h
  have iv4 := gR_in hB (show 1 ≤ 11 from by decide) ev4
  obtain ⟨v5, ev5, h⟩ := bd h
  by_cases hc : (jmin v5 (v3 - a1)) = (v3 - a1)
  · have h := (if_pos hc).symm.trans h
    obtain ⟨v6, ev6, h⟩ := bd h
    by_cases hc : v6 = 0
    · have h := (if_pos hc).symm.trans h
      obtain rfl := Option.some.inj h
      exact ⟨hS, hB⟩
    · have h := (if_neg hc).symm.trans h
      obtain rfl := Option.some.inj h
      exact ⟨hS, hB⟩
  · have h := (if_neg hc).symm.trans h
    obtain rfl := Option.some.inj h
    exact ⟨hS, hB⟩
theorem oX1_mayGo_L81 (fu : Nat)   (a1 : Int32) (a2 : Int32) (a3 : Int32) (s0 : Int32) (M : Mm) {out : Int32 × Mm} (hB : Bd RX TX M)  (h : fX1_mayGo_L81 fu  a1 a2 a3 s0 M = some out) : Sm RX M out.2 ∧ Bd RX TX out.2 := by
  unfold fX1_mayGo_L81 at h
  have hS : Sm RX M M := Sm.rf
  by_cases hc : s0 = 0
  · have h := (if_pos hc).symm.trans h
    by_cases hc : a3 = a1
    · have h := (if_pos hc).symm.trans h
      obtain rfl := Option.some.inj h
      exact ⟨hS, hB⟩
    · have h := (if_neg hc).symm.trans h
      by_cases hc : a2 = 0
      · have h := (if_pos hc).symm.trans h
        obtain rfl := Option.some.inj h
        exact ⟨hS, hB⟩
      · have h := (if_neg hc).symm.trans h
        obtain rfl := Option.some.inj h
        exact ⟨hS, hB⟩
  · have h := (if_neg hc).symm.trans h
    obtain rfl := Option.some.inj h
    exact ⟨hS, hB⟩
theorem oX1_mayGo (fu : Nat)   (a0 : Nat)  (M : Mm) {out : Int32 × Mm} (hB : Bd RX TX M) (ra0 : RX a0) (h : fX1_mayGo fu  a0 M = some out) : Sm RX M out.2 ∧ Bd RX TX out.2 := by
  unfold fX1_mayGo at h
  have hS : Sm RX M M := Sm.rf
  obtain ⟨q1, eq1, h⟩ := bd h
  have rq1 := rc_in hB (show 1 ≤ 11 from by decide) eq1
  obtain ⟨v3, M2, eM2, h⟩ := b2d h
  have w := oX1_left fu q1  M hB rq1 eM2
  have hS := hS.tr w.1
  have hB := w.2
  obtain ⟨v4, ev4, h⟩ := bd h
  obtain ⟨v5, ev5, h⟩ := bd h
  obtain ⟨v6, ev6, h⟩ := bd h
  obtain ⟨q7, eq7, h⟩ := bd h
  have rq7 := rc_in hB (show 1 ≤ 11 from by decide) eq7
  obtain ⟨v9, M8, eM8, h⟩ := b2d h
  have w := oX1_segmentFrom fu q7 v6 M2 hB rq7 eM8
  have hS := hS.tr w.1
  have hB := w.2
  obtain ⟨v10, ev10, h⟩ := bd h
  have iv10 := gR_in hB (show 1 ≤ 11 from by decide) ev10
  obtain ⟨v11, ev11, h⟩ := bd h
  obtain ⟨v12, ev12, h⟩ := bd h
  by_cases hc : v3 ≤ 0
  · have h := (if_pos hc).symm.trans h
    obtain rfl := Option.some.inj h
    exact ⟨hS, hB⟩
  · have h := (if_neg hc).symm.trans h
    by_cases hc : 0 < (jmin v9 ((jmin v11 v12) - (v4 - v5)))
    · have h := (if_pos hc).symm.trans h
      obtain ⟨q13, eq13, h⟩ := bd h
      have rq13 := rc_in hB (show 1 ≤ 11 from by decide) eq13
      obtain ⟨v15, M14, eM14, h⟩ := b2d h
      have w := oX1_dataEnd fu q13  M8 hB rq13 eM14
      have hS := hS.tr w.1
      have hB := w.2
      obtain ⟨v16, ev16, h⟩ := bd h
      obtain ⟨v17, ev17, h⟩ := bd h
      have iv17 := gR_in hB (show 1 ≤ 11 from by decide) ev17
      obtain ⟨v18, ev18, h⟩ := bd h
      by_cases hc : (jmin (jmin v9 ((jmin v11 v12) - (v4 - v5))) (v15 - v16)) = v18
      · have h := (if_pos hc).symm.trans h
        have z := oX1_mayGo_L81 fu   v3 (v4 - v5) (jmin v9 ((jmin v11 v12) - (v4 - v5))) (1 : Int32) M14 hB  h
        exact ⟨hS.tr z.1, z.2⟩
      · have h := (if_neg hc).symm.trans h
        have z := oX1_mayGo_L81 fu   v3 (v4 - v5) (jmin v9 ((jmin v11 v12) - (v4 - v5))) (0 : Int32) M14 hB  h
        exact ⟨hS.tr z.1, z.2⟩
    · have h := (if_neg hc).symm.trans h
      obtain rfl := Option.some.inj h
      exact ⟨hS, hB⟩
theorem oX1_goesAgain (fu : Nat)   (a0 : Nat)  (M : Mm) {out : Int32 × Mm} (hB : Bd RX TX M) (ra0 : RX a0) (h : fX1_goesAgain fu  a0 M = some out) : Sm RX M out.2 ∧ Bd RX TX out.2 := by
  unfold fX1_goesAgain at h
  have hS : Sm RX M M := Sm.rf
  obtain ⟨v1, ev1, h⟩ := bd h
  obtain ⟨q2, eq2, h⟩ := bd h
  have rq2 := rc_in hB (show 1 ≤ 11 from by decide) eq2
  obtain ⟨v4, M3, eM3, h⟩ := b2d h
  have w := oX1_segmentFrom fu q2 v1 M hB rq2 eM3
  have hS := hS.tr w.1
  have hB := w.2
  obtain ⟨v5, ev5, h⟩ := bd h
  obtain ⟨v6, ev6, h⟩ := bd h
  obtain rfl := Option.some.inj h
  exact ⟨hS, hB⟩
theorem oX1_advance (fu : Nat)   (a0 : Nat) (a1 : Int32)  (M : Mm) {out : Mm} (hB : Bd RX TX M) (ra0 : RX a0) (h : fX1_advance fu  a0 a1 M = some out) : Sm RX M out ∧ Bd RX TX out := by
  unfold fX1_advance at h
  have hS : Sm RX M M := Sm.rf
  obtain ⟨v1, ev1, h⟩ := bd h
  obtain ⟨M2, eM2, h⟩ := bd h
  have w := pF_own hB (show 1 ≤ 11 from by decide) eM2
  have hS := hS.tr w.1
  have hB := w.2
  obtain ⟨v3, ev3, h⟩ := bd h
  obtain ⟨v4, ev4, h⟩ := bd h
  by_cases hc : (v3 - v4) ≤ 0
  · have h := (if_pos hc).symm.trans h
    obtain rfl := Option.some.inj h
    exact ⟨hS, hB⟩
  · have h := (if_neg hc).symm.trans h
    obtain ⟨v5, ev5, h⟩ := bd h
    obtain ⟨M6, eM6, h⟩ := bd h
    have w := pF_own hB (show 1 ≤ 11 from by decide) eM6
    have hS := hS.tr w.1
    have hB := w.2
    obtain rfl := Option.some.inj h
    exact ⟨hS, hB⟩
theorem oX1_isWindowNewer (fu : Nat)   (a0 : Nat) (a1 : Option Nat)  (M : Mm) {out : Int32 × Mm} (hB : Bd RX TX M) (ra0 : RX a0) (ia1 : inR RX a1) (h : fX1_isWindowNewer fu  a0 a1 M = some out) : Sm RX M out.2 ∧ Bd RX TX out.2 := by
  unfold fX1_isWindowNewer at h
  have hS : Sm RX M M := Sm.rf
  obtain ⟨v1, ev1, h⟩ := bd h
  obtain ⟨v2, ev2, h⟩ := bd h
  by_cases hc : (v1 - v2) < 0
  · have h := (if_pos hc).symm.trans h
    obtain ⟨hz, rfl⟩ := rN_some h
    exact ⟨hS, hB⟩
  · have h := (if_neg hc).symm.trans h
    obtain ⟨v3, ev3, h⟩ := bd h
    obtain ⟨v4, ev4, h⟩ := bd h
    by_cases hc : v3 = v4
    · have h := (if_pos hc).symm.trans h
      obtain ⟨v5, ev5, h⟩ := bd h
      obtain ⟨v6, ev6, h⟩ := bd h
      by_cases hc : (v5 - v6) < 0
      · have h := (if_pos hc).symm.trans h
        obtain ⟨hz, rfl⟩ := rN_some h
        exact ⟨hS, hB⟩
      · have h := (if_neg hc).symm.trans h
        obtain ⟨hz, rfl⟩ := rN_some h
        exact ⟨hS, hB⟩
    · have h := (if_neg hc).symm.trans h
      obtain ⟨hz, rfl⟩ := rN_some h
      exact ⟨hS, hB⟩
theorem oX1_takeWindow (fu : Nat)   (a0 : Nat) (a1 : Option Nat)  (M : Mm) {out : Mm} (hB : Bd RX TX M) (ra0 : RX a0) (ia1 : inR RX a1) (h : fX1_takeWindow fu  a0 a1 M = some out) : Sm RX M out ∧ Bd RX TX out := by
  unfold fX1_takeWindow at h
  have hS : Sm RX M M := Sm.rf
  obtain ⟨v1, ev1, h⟩ := bd h
  obtain ⟨M2, eM2, h⟩ := bd h
  have w := pF_own hB (show 1 ≤ 11 from by decide) eM2
  have hS := hS.tr w.1
  have hB := w.2
  obtain ⟨v3, ev3, h⟩ := bd h
  obtain ⟨M4, eM4, h⟩ := bd h
  have w := pF_own hB (show 1 ≤ 11 from by decide) eM4
  have hS := hS.tr w.1
  have hB := w.2
  obtain ⟨v5, ev5, h⟩ := bd h
  obtain ⟨M6, eM6, h⟩ := bd h
  have w := pF_own hB (show 1 ≤ 11 from by decide) eM6
  have hS := hS.tr w.1
  have hB := w.2
  obtain rfl := Option.some.inj h
  exact ⟨hS, hB⟩
theorem oX1_finGoes (fu : Nat)   (a0 : Nat)  (M : Mm) {out : Mm} (hB : Bd RX TX M) (ra0 : RX a0) (h : fX1_finGoes fu  a0 M = some out) : Sm RX M out ∧ Bd RX TX out := by
  unfold fX1_finGoes at h
  have hS : Sm RX M M := Sm.rf
  obtain ⟨v1, ev1, h⟩ := bd h
  by_cases hc : v1 = (2 : Int32)
  · have h := (if_pos hc).symm.trans h
    obtain ⟨M4, eM4, h⟩ := bd h
    have w := pF_own hB (show 1 ≤ 11 from by decide) eM4
    have hS := hS.tr w.1
    have hB := w.2
    obtain rfl := Option.some.inj h
    exact ⟨hS, hB⟩
  · have h := (if_neg hc).symm.trans h
    obtain ⟨v2, ev2, h⟩ := bd h
    by_cases hc : v2 = (7 : Int32)
    · have h := (if_pos hc).symm.trans h
      obtain ⟨M3, eM3, h⟩ := bd h
      have w := pF_own hB (show 1 ≤ 11 from by decide) eM3
      have hS := hS.tr w.1
      have hB := w.2
      obtain rfl := Option.some.inj h
      exact ⟨hS, hB⟩
    · have h := (if_neg hc).symm.trans h
      obtain rfl := Option.some.inj h
      exact ⟨hS, hB⟩
theorem oX1_linger (fu : Nat)   (a0 : Nat) (a1 : Int32)  (M : Mm) {out : Mm} (hB : Bd RX TX M) (ra0 : RX a0) (h : fX1_linger fu  a0 a1 M = some out) : Sm RX M out ∧ Bd RX TX out := by
  unfold fX1_linger at h
  have hS : Sm RX M M := Sm.rf
  obtain ⟨M1, eM1, h⟩ := bd h
  have w := pF_own hB (show 1 ≤ 11 from by decide) eM1
  have hS := hS.tr w.1
  have hB := w.2
  obtain ⟨M2, eM2, h⟩ := bd h
  have w := pF_own hB (show 1 ≤ 11 from by decide) eM2
  have hS := hS.tr w.1
  have hB := w.2
  obtain rfl := Option.some.inj h
  exact ⟨hS, hB⟩
theorem oX1_finIsAcknowledged (fu : Nat)   (a0 : Nat) (a1 : Int32)  (M : Mm) {out : Mm} (hB : Bd RX TX M) (ra0 : RX a0) (h : fX1_finIsAcknowledged fu  a0 a1 M = some out) : Sm RX M out ∧ Bd RX TX out := by
  unfold fX1_finIsAcknowledged at h
  have hS : Sm RX M M := Sm.rf
  obtain ⟨v1, ev1, h⟩ := bd h
  by_cases hc : v1 = (3 : Int32)
  · have h := (if_pos hc).symm.trans h
    obtain ⟨M8, eM8, h⟩ := bd h
    have w := pF_own hB (show 1 ≤ 11 from by decide) eM8
    have hS := hS.tr w.1
    have hB := w.2
    obtain ⟨M9, eM9, h⟩ := bd h
    have w := pF_own hB (show 1 ≤ 11 from by decide) eM9
    have hS := hS.tr w.1
    have hB := w.2
    obtain rfl := Option.some.inj h
    exact ⟨hS, hB⟩
  · have h := (if_neg hc).symm.trans h
    obtain ⟨v2, ev2, h⟩ := bd h
    by_cases hc : v2 = (5 : Int32)
    · have h := (if_pos hc).symm.trans h
      obtain ⟨q6, eq6, h⟩ := bd h
      have rq6 := rc_in hB (show 1 ≤ 11 from by decide) eq6
      obtain ⟨M7, eM7, h⟩ := bd h
      have w := oX1_linger fu q6 a1 M hB rq6 eM7
      have hS := hS.tr w.1
      have hB := w.2
      obtain rfl := Option.some.inj h
      exact ⟨hS, hB⟩
    · have h := (if_neg hc).symm.trans h
      obtain ⟨v3, ev3, h⟩ := bd h
      by_cases hc : v3 = (8 : Int32)
      · have h := (if_pos hc).symm.trans h
        obtain ⟨q4, eq4, h⟩ := bd h
        have rq4 := rc_in hB (show 1 ≤ 11 from by decide) eq4
        obtain ⟨M5, eM5, h⟩ := bd h
        have w := oX1_leave fu q4  M hB rq4 eM5
        have hS := hS.tr w.1
        have hB := w.2
        obtain rfl := Option.some.inj h
        exact ⟨hS, hB⟩
      · have h := (if_neg hc).symm.trans h
        obtain rfl := Option.some.inj h
        exact ⟨hS, hB⟩
theorem oX1_otherSideEnds (fu : Nat)   (a0 : Nat) (a1 : Int32)  (M : Mm) {out : Mm} (hB : Bd RX TX M) (ra0 : RX a0) (h : fX1_otherSideEnds fu  a0 a1 M = some out) : Sm RX M out ∧ Bd RX TX out := by
  unfold fX1_otherSideEnds at h
  have hS : Sm RX M M := Sm.rf
  obtain ⟨v1, ev1, h⟩ := bd h
  by_cases hc : v1 = (2 : Int32)
  · have h := (if_pos hc).symm.trans h
    obtain ⟨M7, eM7, h⟩ := bd h
    have w := pF_own hB (show 1 ≤ 11 from by decide) eM7
    have hS := hS.tr w.1
    have hB := w.2
    obtain rfl := Option.some.inj h
    exact ⟨hS, hB⟩
  · have h := (if_neg hc).symm.trans h
    obtain ⟨v2, ev2, h⟩ := bd h
    by_cases hc : v2 = (3 : Int32)
    · have h := (if_pos hc).symm.trans h
      obtain ⟨M6, eM6, h⟩ := bd h
      have w := pF_own hB (show 1 ≤ 11 from by decide) eM6
      have hS := hS.tr w.1
      have hB := w.2
      obtain rfl := Option.some.inj h
      exact ⟨hS, hB⟩
    · have h := (if_neg hc).symm.trans h
      obtain ⟨v3, ev3, h⟩ := bd h
      by_cases hc : v3 = (4 : Int32)
      · have h := (if_pos hc).symm.trans h
        obtain ⟨q4, eq4, h⟩ := bd h
        have rq4 := rc_in hB (show 1 ≤ 11 from by decide) eq4
        obtain ⟨M5, eM5, h⟩ := bd h
        have w := oX1_linger fu q4 a1 M hB rq4 eM5
        have hS := hS.tr w.1
        have hB := w.2
        obtain rfl := Option.some.inj h
        exact ⟨hS, hB⟩
      · have h := (if_neg hc).symm.trans h
        obtain rfl := Option.some.inj h
        exact ⟨hS, hB⟩
theorem oX1_lifeDue (fu : Nat)   (a0 : Nat)  (M : Mm) {out : Int32 × Mm} (hB : Bd RX TX M) (ra0 : RX a0) (h : fX1_lifeDue fu  a0 M = some out) : Sm RX M out.2 ∧ Bd RX TX out.2 := by
  unfold fX1_lifeDue at h
  have hS : Sm RX M M := Sm.rf
  obtain ⟨v1, ev1, h⟩ := bd h
  by_cases hc : v1 = (4 : Int32)
  · have h := (if_pos hc).symm.trans h
    obtain ⟨v2, ev2, h⟩ := bd h
    obtain rfl := Option.some.inj h
    exact ⟨hS, hB⟩
  · have h := (if_neg hc).symm.trans h
    obtain ⟨v3, ev3, h⟩ := bd h
    by_cases hc : v3 = (6 : Int32)
    · have h := (if_pos hc).symm.trans h
      obtain ⟨v9, ev9, h⟩ := bd h
      obtain rfl := Option.some.inj h
      exact ⟨hS, hB⟩
    · have h := (if_neg hc).symm.trans h
      obtain ⟨v4, ev4, h⟩ := bd h
      by_cases hc : v4 = (2 : Int32)
      · have h := (if_pos hc).symm.trans h
        obtain ⟨q5, eq5, h⟩ := bd h
        have rq5 := rc_in hB (show 1 ≤ 11 from by decide) eq5
        obtain ⟨v7, M6, eM6, h⟩ := b2d h
        have w := oX1_isBusy fu q5  M hB rq5 eM6
        have hS := hS.tr w.1
        have hB := w.2
        by_cases hc : v7 = 0
        · have h := (if_pos hc).symm.trans h
          obtain ⟨v8, ev8, h⟩ := bd h
          obtain rfl := Option.some.inj h
          exact ⟨hS, hB⟩
        · have h := (if_neg hc).symm.trans h
          obtain rfl := Option.some.inj h
          exact ⟨hS, hB⟩
      · have h := (if_neg hc).symm.trans h
        obtain rfl := Option.some.inj h
        exact ⟨hS, hB⟩
theorem oX1_endLife (fu : Nat)   (a0 : Nat)  (M : Mm) {out : Mm} (hB : Bd RX TX M) (ra0 : RX a0) (h : fX1_endLife fu  a0 M = some out) : Sm RX M out ∧ Bd RX TX out := by
  unfold fX1_endLife at h
  have hS : Sm RX M M := Sm.rf
  obtain ⟨v1, ev1, h⟩ := bd h
  by_cases hc : v1 = (2 : Int32)
  · have h := (if_pos hc).symm.trans h
    obtain ⟨M4, eM4, h⟩ := bd h
    have w := pZ_own hB (show 1 ≤ 11 from by decide) eM4
    have hS := hS.tr w.1
    have hB := w.2
    obtain rfl := Option.some.inj h
    exact ⟨hS, hB⟩
  · have h := (if_neg hc).symm.trans h
    obtain ⟨q2, eq2, h⟩ := bd h
    have rq2 := rc_in hB (show 1 ≤ 11 from by decide) eq2
    obtain ⟨M3, eM3, h⟩ := bd h
    have w := oX1_leave fu q2  M hB rq2 eM3
    have hS := hS.tr w.1
    have hB := w.2
    obtain rfl := Option.some.inj h
    exact ⟨hS, hB⟩
theorem oX1_allows_L71 (fu : Nat)   (a0 : Nat) (a1 : Int32) (a2 : Int32) (s0 : Int32) (M : Mm) {out : Int32 × Mm} (hB : Bd RX TX M) (ra0 : RX a0) (h : fX1_allows_L71 fu  a0 a1 a2 s0 M = some out) : Sm RX M out.2 ∧ Bd RX TX out.2 := by
  unfold fX1_allows_L71 at h
  have hS : Sm RX M M := Sm.rf
  obtain ⟨v1, ev1, h⟩ := bd h
  by_cases hc : v1 = 0
  · have h := (if_pos hc).symm.trans h
    obtain ⟨hz, rfl⟩ := rN_some h
    exact ⟨hS, hB⟩
  · have h := (if_neg hc).symm.trans h
    by_cases hc : s0 = 0
    · have h := (if_pos hc).symm.trans h
      by_cases hc : a2 = 0
      · have h := (if_pos hc).symm.trans h
        by_cases hc : (a1 &&& (1 : Int32)) = 0
        · have h := (if_pos hc).symm.trans h
          obtain ⟨hz, rfl⟩ := rN_some h
          exact ⟨hS, hB⟩
        · have h := (if_neg hc).symm.trans h
          obtain ⟨hz, rfl⟩ := rN_some h
          exact ⟨hS, hB⟩
      · have h := (if_neg hc).symm.trans h
        obtain ⟨hz, rfl⟩ := rN_some h
        exact ⟨hS, hB⟩
    · have h := (if_neg hc).symm.trans h
      obtain ⟨hz, rfl⟩ := rN_some h
      exact ⟨hS, hB⟩
theorem oX1_allows_L66 (fu : Nat)   (a0 : Nat) (a1 : Int32) (a2 : Int32)  (M : Mm) {out : Int32 × Mm} (hB : Bd RX TX M) (ra0 : RX a0) (h : fX1_allows_L66 fu  a0 a1 a2 M = some out) : Sm RX M out.2 ∧ Bd RX TX out.2 := by
  unfold fX1_allows_L66 at h
  have hS : Sm RX M M := Sm.rf
  have z := oX1_allows_L71 fu   a0 a1 a2 (1 : Int32) M hB ra0 h
  exact ⟨hS.tr z.1, z.2⟩
theorem oX1_allows (fu : Nat)   (a0 : Nat) (a1 : Int32) (a2 : Int32)  (M : Mm) {out : Int32 × Mm} (hB : Bd RX TX M) (ra0 : RX a0) (h : fX1_allows fu  a0 a1 a2 M = some out) : Sm RX M out.2 ∧ Bd RX TX out.2 := by
  unfold fX1_allows at h
  have hS : Sm RX M M := Sm.rf
  by_cases hc : (a1 &&& (2 : Int32)) = 0
  · have h := (if_pos hc).symm.trans h
    obtain ⟨v1, ev1, h⟩ := bd h
    by_cases hc : v1 = (2 : Int32)
    · have h := (if_pos hc).symm.trans h
      have z := oX1_allows_L66 fu   a0 a1 a2 M hB ra0 h
      exact ⟨hS.tr z.1, z.2⟩
    · have h := (if_neg hc).symm.trans h
      obtain ⟨v2, ev2, h⟩ := bd h
      by_cases hc : v2 = (7 : Int32)
      · have h := (if_pos hc).symm.trans h
        have z := oX1_allows_L66 fu   a0 a1 a2 M hB ra0 h
        exact ⟨hS.tr z.1, z.2⟩
      · have h := (if_neg hc).symm.trans h
        obtain ⟨v3, ev3, h⟩ := bd h
        by_cases hc : v3 = (3 : Int32)
        · have h := (if_pos hc).symm.trans h
          have z := oX1_allows_L66 fu   a0 a1 a2 M hB ra0 h
          exact ⟨hS.tr z.1, z.2⟩
        · have h := (if_neg hc).symm.trans h
          obtain ⟨v4, ev4, h⟩ := bd h
          by_cases hc : v4 = (5 : Int32)
          · have h := (if_pos hc).symm.trans h
            have z := oX1_allows_L66 fu   a0 a1 a2 M hB ra0 h
            exact ⟨hS.tr z.1, z.2⟩
          · have h := (if_neg hc).symm.trans h
            obtain ⟨v5, ev5, h⟩ := bd h
            by_cases hc : v5 = (8 : Int32)
            · have h := (if_pos hc).symm.trans h
              have z := oX1_allows_L66 fu   a0 a1 a2 M hB ra0 h
              exact ⟨hS.tr z.1, z.2⟩
            · have h := (if_neg hc).symm.trans h
              have z := oX1_allows_L71 fu   a0 a1 a2 (0 : Int32) M hB ra0 h
              exact ⟨hS.tr z.1, z.2⟩
  · have h := (if_neg hc).symm.trans h
    obtain ⟨v6, ev6, h⟩ := bd h
    by_cases hc : v6 = (1 : Int32)
    · have h := (if_pos hc).symm.trans h
      by_cases hc : a2 = 0
      · have h := (if_pos hc).symm.trans h
        obtain ⟨hz, rfl⟩ := rN_some h
        exact ⟨hS, hB⟩
      · have h := (if_neg hc).symm.trans h
        obtain ⟨hz, rfl⟩ := rN_some h
        exact ⟨hS, hB⟩
    · have h := (if_neg hc).symm.trans h
      obtain ⟨hz, rfl⟩ := rN_some h
      exact ⟨hS, hB⟩
theorem oX1_number (fu : Nat)   (a0 : Nat) (a1 : Int32)  (M : Mm) {out : Int32 × Mm} (hB : Bd RX TX M) (ra0 : RX a0) (h : fX1_number fu  a0 a1 M = some out) : Sm RX M out.2 ∧ Bd RX TX out.2 := by
  unfold fX1_number at h
  have hS : Sm RX M M := Sm.rf
  by_cases hc0 : a1 = (0 : Int32)
  · have h := (if_pos hc0).symm.trans h
    obtain ⟨v1, ev1, h⟩ := bd h
    obtain rfl := Option.some.inj h
    exact ⟨hS, hB⟩
  have h := (if_neg hc0).symm.trans h
  by_cases hc1 : a1 = (1 : Int32)
  · have h := (if_pos hc1).symm.trans h
    obtain ⟨v2, ev2, h⟩ := bd h
    obtain rfl := Option.some.inj h
    exact ⟨hS, hB⟩
  have h := (if_neg hc1).symm.trans h
  by_cases hc2 : a1 = (2 : Int32)
  · have h := (if_pos hc2).symm.trans h
    obtain ⟨v3, ev3, h⟩ := bd h
    obtain rfl := Option.some.inj h
    exact ⟨hS, hB⟩
  have h := (if_neg hc2).symm.trans h
  by_cases hc3 : a1 = (3 : Int32)
  · have h := (if_pos hc3).symm.trans h
    obtain ⟨v4, ev4, h⟩ := bd h
    obtain rfl := Option.some.inj h
    exact ⟨hS, hB⟩
  have h := (if_neg hc3).symm.trans h
  by_cases hc4 : a1 = (4 : Int32)
  · have h := (if_pos hc4).symm.trans h
    obtain ⟨v5, ev5, h⟩ := bd h
    obtain rfl := Option.some.inj h
    exact ⟨hS, hB⟩
  have h := (if_neg hc4).symm.trans h
  by_cases hc5 : a1 = (5 : Int32)
  · have h := (if_pos hc5).symm.trans h
    obtain ⟨v6, ev6, h⟩ := bd h
    have iv6 := gR_in hB (show 1 ≤ 11 from by decide) ev6
    obtain ⟨v7, ev7, h⟩ := bd h
    obtain rfl := Option.some.inj h
    exact ⟨hS, hB⟩
  have h := (if_neg hc5).symm.trans h
  by_cases hc6 : a1 = (6 : Int32)
  · have h := (if_pos hc6).symm.trans h
    obtain ⟨v8, ev8, h⟩ := bd h
    obtain rfl := Option.some.inj h
    exact ⟨hS, hB⟩
  have h := (if_neg hc6).symm.trans h
  by_cases hc7 : a1 = (7 : Int32)
  · have h := (if_pos hc7).symm.trans h
    obtain ⟨v9, ev9, h⟩ := bd h
    have iv9 := gR_in hB (show 1 ≤ 11 from by decide) ev9
    obtain ⟨v10, ev10, h⟩ := bd h
    obtain rfl := Option.some.inj h
    exact ⟨hS, hB⟩
  have h := (if_neg hc7).symm.trans h
  by_cases hc8 : a1 = (8 : Int32)
  · have h := (if_pos hc8).symm.trans h
    obtain ⟨v11, ev11, h⟩ := bd h
    have iv11 := gR_in hB (show 1 ≤ 11 from by decide) ev11
    obtain ⟨v12, ev12, h⟩ := bd h
    obtain rfl := Option.some.inj h
    exact ⟨hS, hB⟩
  have h := (if_neg hc8).symm.trans h
  by_cases hc9 : a1 = (9 : Int32)
  · have h := (if_pos hc9).symm.trans h
    obtain ⟨v13, ev13, h⟩ := bd h
    have iv13 := gR_in hB (show 1 ≤ 11 from by decide) ev13
    obtain ⟨v14, ev14, h⟩ := bd h
    obtain rfl := Option.some.inj h
    exact ⟨hS, hB⟩
  have h := (if_neg hc9).symm.trans h
  by_cases hc10 : a1 = (10 : Int32)
  · have h := (if_pos hc10).symm.trans h
    obtain ⟨v15, ev15, h⟩ := bd h
    have iv15 := gR_in hB (show 1 ≤ 11 from by decide) ev15
    obtain ⟨v16, ev16, h⟩ := bd h
    obtain rfl := Option.some.inj h
    exact ⟨hS, hB⟩
  have h := (if_neg hc10).symm.trans h
  by_cases hc11 : a1 = (11 : Int32)
  · have h := (if_pos hc11).symm.trans h
    obtain ⟨v17, ev17, h⟩ := bd h
    have iv17 := gR_in hB (show 1 ≤ 11 from by decide) ev17
    obtain ⟨q18, eq18, h⟩ := bd h
    have rq18 := rc_in hB (show 0 ≤ 11 from by decide) eq18
    obtain ⟨v20, M19, eM19, h⟩ := b2d h
    have w := oX0_held fu q18  M hB rq18 eM19
    have hS := hS.tr w.1
    have hB := w.2
    obtain rfl := Option.some.inj h
    exact ⟨hS, hB⟩
  have h := (if_neg hc11).symm.trans h
  by_cases hc12 : a1 = (12 : Int32)
  · have h := (if_pos hc12).symm.trans h
    obtain ⟨q21, eq21, h⟩ := bd h
    have rq21 := rc_in hB (show 1 ≤ 11 from by decide) eq21
    obtain ⟨v23, M22, eM22, h⟩ := b2d h
    have w := oX1_left fu q21  M hB rq21 eM22
    have hS := hS.tr w.1
    have hB := w.2
    obtain rfl := Option.some.inj h
    exact ⟨hS, hB⟩
  have h := (if_neg hc12).symm.trans h
  by_cases hc13 : a1 = (13 : Int32)
  · have h := (if_pos hc13).symm.trans h
    obtain ⟨v24, ev24, h⟩ := bd h
    have iv24 := gR_in hB (show 1 ≤ 11 from by decide) ev24
    obtain ⟨v25, ev25, h⟩ := bd h
    obtain rfl := Option.some.inj h
    exact ⟨hS, hB⟩
  have h := (if_neg hc13).symm.trans h
  obtain ⟨v26, ev26, h⟩ := bd h
  have iv26 := gR_in hB (show 1 ≤ 11 from by decide) ev26
  obtain ⟨v27, ev27, h⟩ := bd h
  obtain rfl := Option.some.inj h
  exact ⟨hS, hB⟩
theorem oX2_init (fu : Nat)   (a0 : Nat)  (M : Mm) {out : Mm} (hB : Bd RX TX M) (ra0 : RX a0) (h : fX2_init fu  a0 M = some out) : Sm RX M out ∧ Bd RX TX out := by
  unfold fX2_init at h
  have hS : Sm RX M M := Sm.rf
  obtain ⟨v1, M2, eM2, h⟩ := b2d h
  have w := mkA_own hB (by decide) eM2
  have hS := hS.tr w.1
  have rv1 := w.2.2
  have hB := w.2.1
  obtain ⟨M3, eM3, h⟩ := bd h
  have w := pG_own hB (show 2 ≤ 11 from by decide) (inR_some rv1) eM3
  have hS := hS.tr w.1
  have hB := w.2
  obtain ⟨v4, M5, eM5, h⟩ := b2d h
  have w := mkA_own hB (by decide) eM5
  have hS := hS.tr w.1
  have rv4 := w.2.2
  have hB := w.2.1
  obtain ⟨M6, eM6, h⟩ := bd h
  have w := pG_own hB (show 2 ≤ 11 from by decide) (inR_some rv4) eM6
  have hS := hS.tr w.1
  have hB := w.2
  obtain rfl := Option.some.inj h
  exact ⟨hS, hB⟩
theorem oX2_begin (fu : Nat)   (a0 : Nat) (a1 : Int32) (a2 : Int32) (a3 : Int32) (a4 : Int32)  (M : Mm) {out : Mm} (hB : Bd RX TX M) (ra0 : RX a0) (h : fX2_begin fu  a0 a1 a2 a3 a4 M = some out) : Sm RX M out ∧ Bd RX TX out := by
  unfold fX2_begin at h
  have hS : Sm RX M M := Sm.rf
  obtain ⟨M1, eM1, h⟩ := bd h
  have w := pF_own hB (show 2 ≤ 11 from by decide) eM1
  have hS := hS.tr w.1
  have hB := w.2
  obtain ⟨M2, eM2, h⟩ := bd h
  have w := pF_own hB (show 2 ≤ 11 from by decide) eM2
  have hS := hS.tr w.1
  have hB := w.2
  obtain ⟨M3, eM3, h⟩ := bd h
  have w := pF_own hB (show 2 ≤ 11 from by decide) eM3
  have hS := hS.tr w.1
  have hB := w.2
  obtain ⟨M4, eM4, h⟩ := bd h
  have w := pF_own hB (show 2 ≤ 11 from by decide) eM4
  have hS := hS.tr w.1
  have hB := w.2
  obtain ⟨M5, eM5, h⟩ := bd h
  have w := pF_own hB (show 2 ≤ 11 from by decide) eM5
  have hS := hS.tr w.1
  have hB := w.2
  obtain ⟨M6, eM6, h⟩ := bd h
  have w := pF_own hB (show 2 ≤ 11 from by decide) eM6
  have hS := hS.tr w.1
  have hB := w.2
  obtain ⟨M7, eM7, h⟩ := bd h
  have w := pF_own hB (show 2 ≤ 11 from by decide) eM7
  have hS := hS.tr w.1
  have hB := w.2
  obtain ⟨v8, ev8, h⟩ := bd h
  have iv8 := gR_in hB (show 2 ≤ 11 from by decide) ev8
  obtain ⟨M9, eM9, h⟩ := bd h
  have w := oJ7_fill_53178 fu  v8 (0 : Int32) M7 hB iv8 eM9
  have hS := hS.tr w.1
  have hB := w.2
  obtain rfl := Option.some.inj h
  exact ⟨hS, hB⟩
theorem oX2_isOf (fu : Nat)   (a0 : Nat) (a1 : Int32) (a2 : Int32) (a3 : Int32)  (M : Mm) {out : Int32 × Mm} (hB : Bd RX TX M) (ra0 : RX a0) (h : fX2_isOf fu  a0 a1 a2 a3 M = some out) : Sm RX M out.2 ∧ Bd RX TX out.2 := by
  unfold fX2_isOf at h
  have hS : Sm RX M M := Sm.rf
  obtain ⟨v1, ev1, h⟩ := bd h
  by_cases hc : v1 = a1
  · have h := (if_pos hc).symm.trans h
    obtain ⟨v2, ev2, h⟩ := bd h
    by_cases hc : v2 = a2
    · have h := (if_pos hc).symm.trans h
      obtain ⟨v3, ev3, h⟩ := bd h
      by_cases hc : v3 = a3
      · have h := (if_pos hc).symm.trans h
        obtain ⟨hz, rfl⟩ := rN_some h
        exact ⟨hS, hB⟩
      · have h := (if_neg hc).symm.trans h
        obtain ⟨hz, rfl⟩ := rN_some h
        exact ⟨hS, hB⟩
    · have h := (if_neg hc).symm.trans h
      obtain ⟨hz, rfl⟩ := rN_some h
      exact ⟨hS, hB⟩
  · have h := (if_neg hc).symm.trans h
    obtain ⟨hz, rfl⟩ := rN_some h
    exact ⟨hS, hB⟩
theorem oX2_agrees (fu : Nat)   (a0 : Nat) (a1 : Int32) (a2 : Int32)  (M : Mm) {out : Int32 × Mm} (hB : Bd RX TX M) (ra0 : RX a0) (h : fX2_agrees fu  a0 a1 a2 M = some out) : Sm RX M out.2 ∧ Bd RX TX out.2 := by
  unfold fX2_agrees at h
  have hS : Sm RX M M := Sm.rf
  by_cases hc : a2 = 0
  · have h := (if_pos hc).symm.trans h
    obtain ⟨v1, ev1, h⟩ := bd h
    by_cases hc : 0 ≤ v1
    · have h := (if_pos hc).symm.trans h
      obtain ⟨v2, ev2, h⟩ := bd h
      by_cases hc : a1 = v2
      · have h := (if_pos hc).symm.trans h
        obtain ⟨hz, rfl⟩ := rN_some h
        exact ⟨hS, hB⟩
      · have h := (if_neg hc).symm.trans h
        obtain ⟨hz, rfl⟩ := rN_some h
        exact ⟨hS, hB⟩
    · have h := (if_neg hc).symm.trans h
      obtain ⟨v3, ev3, h⟩ := bd h
      by_cases hc : a1 < v3
      · have h := (if_pos hc).symm.trans h
        obtain ⟨hz, rfl⟩ := rN_some h
        exact ⟨hS, hB⟩
      · have h := (if_neg hc).symm.trans h
        obtain ⟨hz, rfl⟩ := rN_some h
        exact ⟨hS, hB⟩
  · have h := (if_neg hc).symm.trans h
    obtain ⟨v4, ev4, h⟩ := bd h
    by_cases hc : v4 < 0
    · have h := (if_pos hc).symm.trans h
      obtain ⟨hz, rfl⟩ := rN_some h
      exact ⟨hS, hB⟩
    · have h := (if_neg hc).symm.trans h
      obtain ⟨v5, ev5, h⟩ := bd h
      by_cases hc : v5 < a1
      · have h := (if_pos hc).symm.trans h
        obtain ⟨hz, rfl⟩ := rN_some h
        exact ⟨hS, hB⟩
      · have h := (if_neg hc).symm.trans h
        obtain ⟨hz, rfl⟩ := rN_some h
        exact ⟨hS, hB⟩
theorem oX2_put_L101 (fu : Nat)   (a0 : Nat) (a3 : Int32) (a4 : Int32)  (M : Mm) {out : Mm} (hB : Bd RX TX M) (ra0 : RX a0) (h : fX2_put_L101 fu  a0 a3 a4 M = some out) : Sm RX M out ∧ Bd RX TX out := by
  unfold fX2_put_L101 at h
  have hS : Sm RX M M := Sm.rf
  obtain ⟨v1, ev1, h⟩ := bd h
  obtain ⟨M2, eM2, h⟩ := bd h
  have w := pF_own hB (show 2 ≤ 11 from by decide) eM2
  have hS := hS.tr w.1
  have hB := w.2
  obtain rfl := Option.some.inj h
  exact ⟨hS, hB⟩
theorem oX2_put_L95 (fu : Nat) {out : Mm} (k3 : Nat → Option Nat → Int32 → Int32 → Int32 → Int32 → Mm → Option (Mm)) (hk3 : ∀ (b0 : Nat) (b1 : Option Nat) (b2 : Int32) (b3 : Int32) (b4 : Int32) (b5 : Int32)  (M : Mm), Bd RX TX M → RX b0 → inR RX b1 → k3 b0 b1 b2 b3 b4 b5 M = some out → Sm RX M out ∧ Bd RX TX out) (a0 : Nat) (a1 : Option Nat) (a2 : Int32) (a3 : Int32) (a4 : Int32) (a5 : Int32)  (M : Mm) (hB : Bd RX TX M) (ra0 : RX a0) (ia1 : inR RX a1) (h : fX2_put_L95 fu k3 a0 a1 a2 a3 a4 a5 M = some out) : Sm RX M out ∧ Bd RX TX out := by
  unfold fX2_put_L95 at h
  have hS : Sm RX M M := Sm.rf
  have z := hk3 a0 a1 a2 a3 a4 (a5 + (1 : Int32)) M hB ra0 ia1 h
  exact ⟨hS.tr z.1, z.2⟩
theorem oX2_put_L3 (fu : Nat) {out : Mm}   : ∀ (n : Nat) (a0 : Nat) (a1 : Option Nat) (a2 : Int32) (a3 : Int32) (a4 : Int32) (a5 : Int32)  (M : Mm), Bd RX TX M → RX a0 → inR RX a1 → fX2_put_L3 fu  n a0 a1 a2 a3 a4 a5 M = some out → Sm RX M out ∧ Bd RX TX out := by
  intro n
  induction n with
  | zero =>
    intro a0 a1 a2 a3 a4 a5 M hB ra0 ia1 h
    have h : (none : Option (Mm)) = some out := h
    cases h
  | succ n ih =>
    intro a0 a1 a2 a3 a4 a5 M hB ra0 ia1 h
    rw [fX2_put_L3] at h
    have hS : Sm RX M M := Sm.rf
    by_cases hc : a4 ≤ a5
    · have h := (if_pos hc).symm.trans h
      have z := oX2_put_L101 fu   a0 a3 a4 M hB ra0 h
      exact ⟨hS.tr z.1, z.2⟩
    · have h := (if_neg hc).symm.trans h
      by_cases hc : (4096 : Int32) ≤ (a3 + a5)
      · have h := (if_pos hc).symm.trans h
        have z := oX2_put_L101 fu   a0 a3 a4 M hB ra0 h
        exact ⟨hS.tr z.1, z.2⟩
      · have h := (if_neg hc).symm.trans h
        obtain ⟨v1, ev1, h⟩ := bd h
        by_cases hc : (a3 + a5) < 0
        · have h := (if_pos hc).symm.trans h
          have z := oX2_put_L95 fu (fun b0 b1 b2 b3 b4 b5 M => fX2_put_L3 fu  n b0 b1 b2 b3 b4 b5 M) ih a0 a1 a2 a3 a4 a5 M hB ra0 ia1 h
          exact ⟨hS.tr z.1, z.2⟩
        · have h := (if_neg hc).symm.trans h
          obtain ⟨v2, ev2, h⟩ := bd h
          have iv2 := gR_in hB (show 2 ≤ 11 from by decide) ev2
          obtain ⟨v3, ev3, h⟩ := bd h
          by_cases hc : (v3 &&& v1) = 0
          · have h := (if_pos hc).symm.trans h
            obtain ⟨v4, ev4, h⟩ := bd h
            have iv4 := gR_in hB (show 2 ≤ 11 from by decide) ev4
            obtain ⟨v5, ev5, h⟩ := bd h
            obtain ⟨M6, eM6, h⟩ := bd h
            have w := pA_own hB iv4 (by decide) eM6
            have hS := hS.tr w.1
            have hB := w.2
            obtain ⟨v7, ev7, h⟩ := bd h
            have iv7 := gR_in hB (show 2 ≤ 11 from by decide) ev7
            obtain ⟨v9, M8, eM8, h⟩ := b2d h
            have w := oX11_one fu  a1 (a2 + a5) M6 hB ia1 eM8
            have hS := hS.tr w.1
            have hB := w.2
            obtain ⟨M10, eM10, h⟩ := bd h
            have w := pA_ownB hB iv7 eM10
            have hS := hS.tr w.1
            have hB := w.2
            obtain ⟨v11, ev11, h⟩ := bd h
            obtain ⟨M12, eM12, h⟩ := bd h
            have w := pF_own hB (show 2 ≤ 11 from by decide) eM12
            have hS := hS.tr w.1
            have hB := w.2
            have z := oX2_put_L95 fu (fun b0 b1 b2 b3 b4 b5 M => fX2_put_L3 fu  n b0 b1 b2 b3 b4 b5 M) ih a0 a1 a2 a3 a4 a5 M12 hB ra0 ia1 h
            exact ⟨hS.tr z.1, z.2⟩
          · have h := (if_neg hc).symm.trans h
            have z := oX2_put_L95 fu (fun b0 b1 b2 b3 b4 b5 M => fX2_put_L3 fu  n b0 b1 b2 b3 b4 b5 M) ih a0 a1 a2 a3 a4 a5 M hB ra0 ia1 h
            exact ⟨hS.tr z.1, z.2⟩
theorem oX2_put (fu : Nat)   (a0 : Nat) (a1 : Option Nat) (a2 : Int32) (a3 : Int32) (a4 : Int32)  (M : Mm) {out : Mm} (hB : Bd RX TX M) (ra0 : RX a0) (ia1 : inR RX a1) (h : fX2_put fu  a0 a1 a2 a3 a4 M = some out) : Sm RX M out ∧ Bd RX TX out := by
  unfold fX2_put at h
  have hS : Sm RX M M := Sm.rf
  have z := oX2_put_L3 fu   fu a0 a1 a2 a3 a4 (0 : Int32) M hB ra0 ia1 h
  exact ⟨hS.tr z.1, z.2⟩
theorem oX2_isWhole (fu : Nat)   (a0 : Nat)  (M : Mm) {out : Int32 × Mm} (hB : Bd RX TX M) (ra0 : RX a0) (h : fX2_isWhole fu  a0 M = some out) : Sm RX M out.2 ∧ Bd RX TX out.2 := by
  unfold fX2_isWhole at h
  have hS : Sm RX M M := Sm.rf
  obtain ⟨v1, ev1, h⟩ := bd h
  by_cases hc : v1 < 0
  · have h := (if_pos hc).symm.trans h
    obtain ⟨hz, rfl⟩ := rN_some h
    exact ⟨hS, hB⟩
  · have h := (if_neg hc).symm.trans h
    obtain ⟨v2, ev2, h⟩ := bd h
    obtain ⟨v3, ev3, h⟩ := bd h
    by_cases hc : v2 = v3
    · have h := (if_pos hc).symm.trans h
      obtain ⟨hz, rfl⟩ := rN_some h
      exact ⟨hS, hB⟩
    · have h := (if_neg hc).symm.trans h
      obtain ⟨hz, rfl⟩ := rN_some h
      exact ⟨hS, hB⟩
theorem oX3_init (fu : Nat)   (a0 : Nat) (a1 : Option Nat) (a2 : Option Nat)  (M : Mm) {out : Mm} (hB : Bd RX TX M) (ra0 : RX a0) (ia1 : inR RX a1) (ia2 : inR RX a2) (h : fX3_init fu  a0 a1 a2 M = some out) : Sm RX M out ∧ Bd RX TX out := by
  unfold fX3_init at h
  have hS : Sm RX M M := Sm.rf
  obtain ⟨M1, eM1, h⟩ := bd h
  have w := pG_own hB (show 3 ≤ 11 from by decide) ia1 eM1
  have hS := hS.tr w.1
  have hB := w.2
  obtain ⟨M2, eM2, h⟩ := bd h
  have w := pG_own hB (show 3 ≤ 11 from by decide) ia2 eM2
  have hS := hS.tr w.1
  have hB := w.2
  obtain ⟨v3, M4, eM4, h⟩ := b2d h
  have w := mkA_own hB (by decide) eM4
  have hS := hS.tr w.1
  have rv3 := w.2.2
  have hB := w.2.1
  obtain ⟨M5, eM5, h⟩ := bd h
  have w := pG_own hB (show 3 ≤ 11 from by decide) (inR_some rv3) eM5
  have hS := hS.tr w.1
  have hB := w.2
  obtain ⟨v6, M7, eM7, h⟩ := b2d h
  have w := mkA_own hB (by decide) eM7
  have hS := hS.tr w.1
  have rv6 := w.2.2
  have hB := w.2.1
  obtain ⟨M8, eM8, h⟩ := bd h
  have w := pG_own hB (show 3 ≤ 11 from by decide) (inR_some rv6) eM8
  have hS := hS.tr w.1
  have hB := w.2
  obtain rfl := Option.some.inj h
  exact ⟨hS, hB⟩
theorem oX3_restart (fu : Nat)   (a0 : Nat)  (M : Mm) {out : Mm} (hB : Bd RX TX M) (ra0 : RX a0) (h : fX3_restart fu  a0 M = some out) : Sm RX M out ∧ Bd RX TX out := by
  unfold fX3_restart at h
  have hS : Sm RX M M := Sm.rf
  obtain ⟨M1, eM1, h⟩ := bd h
  have w := pF_own hB (show 3 ≤ 11 from by decide) eM1
  have hS := hS.tr w.1
  have hB := w.2
  obtain rfl := Option.some.inj h
  exact ⟨hS, hB⟩
theorem oX11_four (fu : Nat)   (a0 : Option Nat) (a1 : Int32)  (M : Mm) {out : Int32 × Mm} (hB : Bd RX TX M) (ia0 : inR RX a0) (h : fX11_four fu  a0 a1 M = some out) : Sm RX M out.2 ∧ Bd RX TX out.2 := by
  unfold fX11_four at h
  have hS : Sm RX M M := Sm.rf
  by_cases hc : a1 < 0
  · have h := (if_pos hc).symm.trans h
    obtain rfl := Option.some.inj h
    exact ⟨hS, hB⟩
  · have h := (if_neg hc).symm.trans h
    obtain ⟨v1, ev1, h⟩ := bd h
    by_cases hc : a1 ≤ (v1 - (4 : Int32))
    · have h := (if_pos hc).symm.trans h
      obtain ⟨v2, ev2, h⟩ := bd h
      obtain ⟨v3, ev3, h⟩ := bd h
      obtain ⟨v4, ev4, h⟩ := bd h
      obtain ⟨v5, ev5, h⟩ := bd h
      obtain rfl := Option.some.inj h
      exact ⟨hS, hB⟩
    · have h := (if_neg hc).symm.trans h
      obtain rfl := Option.some.inj h
      exact ⟨hS, hB⟩
theorem oX3_isForUs_L34 (fu : Nat)   (a2 : Int32) (a3 : Int32)  (M : Mm) {out : Int32 × Mm} (hB : Bd RX TX M)  (h : fX3_isForUs_L34 fu  a2 a3 M = some out) : Sm RX M out.2 ∧ Bd RX TX out.2 := by
  unfold fX3_isForUs_L34 at h
  have hS : Sm RX M M := Sm.rf
  by_cases hc : a2 = (65535 : Int32)
  · have h := (if_pos hc).symm.trans h
    by_cases hc : a3 = (-1 : Int32)
    · have h := (if_pos hc).symm.trans h
      obtain ⟨hz, rfl⟩ := rN_some h
      exact ⟨hS, hB⟩
    · have h := (if_neg hc).symm.trans h
      obtain ⟨hz, rfl⟩ := rN_some h
      exact ⟨hS, hB⟩
  · have h := (if_neg hc).symm.trans h
    obtain ⟨hz, rfl⟩ := rN_some h
    exact ⟨hS, hB⟩
theorem oX3_isForUs (fu : Nat)   (a0 : Nat) (a1 : Option Nat)  (M : Mm) {out : Int32 × Mm} (hB : Bd RX TX M) (ra0 : RX a0) (ia1 : inR RX a1) (h : fX3_isForUs fu  a0 a1 M = some out) : Sm RX M out.2 ∧ Bd RX TX out.2 := by
  unfold fX3_isForUs at h
  have hS : Sm RX M M := Sm.rf
  obtain ⟨v2, M1, eM1, h⟩ := b2d h
  have w := oX11_two fu  a1 (0 : Int32) M hB ia1 eM1
  have hS := hS.tr w.1
  have hB := w.2
  obtain ⟨v4, M3, eM3, h⟩ := b2d h
  have w := oX11_four fu  a1 (2 : Int32) M1 hB ia1 eM3
  have hS := hS.tr w.1
  have hB := w.2
  obtain ⟨v5, ev5, h⟩ := bd h
  have iv5 := gR_in hB (show 3 ≤ 11 from by decide) ev5
  obtain ⟨v6, ev6, h⟩ := bd h
  by_cases hc : v2 = v6
  · have h := (if_pos hc).symm.trans h
    obtain ⟨v7, ev7, h⟩ := bd h
    have iv7 := gR_in hB (show 3 ≤ 11 from by decide) ev7
    obtain ⟨v8, ev8, h⟩ := bd h
    by_cases hc : v4 = v8
    · have h := (if_pos hc).symm.trans h
      obtain ⟨hz, rfl⟩ := rN_some h
      exact ⟨hS, hB⟩
    · have h := (if_neg hc).symm.trans h
      have z := oX3_isForUs_L34 fu   v2 v4 M3 hB  h
      exact ⟨hS.tr z.1, z.2⟩
  · have h := (if_neg hc).symm.trans h
    have z := oX3_isForUs_L34 fu   v2 v4 M3 hB  h
    exact ⟨hS.tr z.1, z.2⟩
theorem oX11_added_L67 (fu : Nat) {out : Int32 × Mm} (k20 : Option Nat → Int32 → Int32 → Int32 → Mm → Option (Int32 × Mm)) (hk20 : ∀ (b0 : Option Nat) (b4 : Int32) (b5 : Int32) (b6 : Int32)  (M : Mm), Bd RX TX M → inR RX b0 → k20 b0 b4 b5 b6 M = some out → Sm RX M out.2 ∧ Bd RX TX out.2) (a0 : Option Nat) (a4 : Int32) (a5 : Int32) (a6 : Int32)  (M : Mm) (hB : Bd RX TX M) (ia0 : inR RX a0) (h : fX11_added_L67 fu k20 a0 a4 a5 a6 M = some out) : Sm RX M out.2 ∧ Bd RX TX out.2 := by
  unfold fX11_added_L67 at h
  have hS : Sm RX M M := Sm.rf
  have z := hk20 a0 a4 a5 (a6 + (2 : Int32)) M hB ia0 h
  exact ⟨hS.tr z.1, z.2⟩
theorem oX11_added_L20 (fu : Nat) {out : Int32 × Mm}   : ∀ (n : Nat) (a0 : Option Nat) (a4 : Int32) (a5 : Int32) (a6 : Int32)  (M : Mm), Bd RX TX M → inR RX a0 → fX11_added_L20 fu  n a0 a4 a5 a6 M = some out → Sm RX M out.2 ∧ Bd RX TX out.2 := by
  intro n
  induction n with
  | zero =>
    intro a0 a4 a5 a6 M hB ia0 h
    have h : (none : Option (Int32 × Mm)) = some out := h
    cases h
  | succ n ih =>
    intro a0 a4 a5 a6 M hB ia0 h
    rw [fX11_added_L20] at h
    have hS : Sm RX M M := Sm.rf
    by_cases hc : a5 ≤ a6
    · have h := (if_pos hc).symm.trans h
      obtain ⟨v1, ev1, h⟩ := bd h
      obtain rfl := Option.some.inj h
      exact ⟨hS, hB⟩
    · have h := (if_neg hc).symm.trans h
      obtain ⟨v2, ev2, h⟩ := bd h
      obtain ⟨v3, ev3, h⟩ := bd h
      by_cases hc : a5 ≤ (a6 + (1 : Int32))
      · have h := (if_pos hc).symm.trans h
        have z := oX11_added_L67 fu (fun b0 b4 b5 b6 M => fX11_added_L20 fu  n b0 b4 b5 b6 M) ih a0 v3 a5 a6 M hB ia0 h
        exact ⟨hS.tr z.1, z.2⟩
      · have h := (if_neg hc).symm.trans h
        obtain ⟨v4, ev4, h⟩ := bd h
        have z := oX11_added_L67 fu (fun b0 b4 b5 b6 M => fX11_added_L20 fu  n b0 b4 b5 b6 M) ih a0 (v3 + (v4 &&& (255 : Int32))) a5 a6 M hB ia0 h
        exact ⟨hS.tr z.1, z.2⟩
theorem oX11_added (fu : Nat)   (a0 : Option Nat) (a1 : Int32) (a2 : Int32) (a3 : Int32)  (M : Mm) {out : Int32 × Mm} (hB : Bd RX TX M) (ia0 : inR RX a0) (h : fX11_added fu  a0 a1 a2 a3 M = some out) : Sm RX M out.2 ∧ Bd RX TX out.2 := by
  unfold fX11_added at h
  have hS : Sm RX M M := Sm.rf
  obtain ⟨v1, ev1, h⟩ := bd h
  have z := oX11_added_L20 fu   fu a0 a3 (jmin (a1 + a2) v1) (jmax a1 (0 : Int32)) M hB ia0 h
  exact ⟨hS.tr z.1, z.2⟩
theorem oX11_isHostNumber (fu : Nat)   (a0 : Int32)  (M : Mm) {out : Int32 × Mm} (hB : Bd RX TX M)  (h : fX11_isHostNumber fu  a0 M = some out) : Sm RX M out.2 ∧ Bd RX TX out.2 := by
  unfold fX11_isHostNumber at h
  have hS : Sm RX M M := Sm.rf
  by_cases hc : (ushr a0 (24 : Int32)) < (1 : Int32)
  · have h := (if_pos hc).symm.trans h
    obtain ⟨hz, rfl⟩ := rN_some h
    exact ⟨hS, hB⟩
  · have h := (if_neg hc).symm.trans h
    by_cases hc : (223 : Int32) < (ushr a0 (24 : Int32))
    · have h := (if_pos hc).symm.trans h
      obtain ⟨hz, rfl⟩ := rN_some h
      exact ⟨hS, hB⟩
    · have h := (if_neg hc).symm.trans h
      by_cases hc : (ushr a0 (24 : Int32)) = (127 : Int32)
      · have h := (if_pos hc).symm.trans h
        obtain ⟨hz, rfl⟩ := rN_some h
        exact ⟨hS, hB⟩
      · have h := (if_neg hc).symm.trans h
        obtain ⟨hz, rfl⟩ := rN_some h
        exact ⟨hS, hB⟩
theorem oX3_indexOf_L92 (fu : Nat)   (a0 : Nat) (a1 : Int32) (a2 : Option Nat)  (M : Mm) {out : Int32 × Mm} (hB : Bd RX TX M) (ra0 : RX a0) (ia2 : inR RX a2) (h : fX3_indexOf_L92 fu  a0 a1 a2 M = some out) : Sm RX M out.2 ∧ Bd RX TX out.2 := by
  unfold fX3_indexOf_L92 at h
  have hS : Sm RX M M := Sm.rf
  obtain ⟨v1, ev1, h⟩ := bd h
  obtain ⟨v2, ev2, h⟩ := bd h
  obtain ⟨v3, ev3, h⟩ := bd h
  have iv3 := gR_in hB (show 3 ≤ 11 from by decide) ev3
  obtain ⟨v4, ev4, h⟩ := bd h
  obtain ⟨q5, eq5, h⟩ := bd h
  have rq5 := rc_in hB (show 2 ≤ 11 from by decide) eq5
  obtain ⟨M6, eM6, h⟩ := bd h
  have w := oX2_begin fu q5 v1 a1 v2 v4 M hB rq5 eM6
  have hS := hS.tr w.1
  have hB := w.2
  obtain ⟨v7, ev7, h⟩ := bd h
  obtain ⟨M8, eM8, h⟩ := bd h
  have w := pF_own hB (show 3 ≤ 11 from by decide) eM8
  have hS := hS.tr w.1
  have hB := w.2
  obtain ⟨v9, ev9, h⟩ := bd h
  obtain rfl := Option.some.inj h
  exact ⟨hS, hB⟩
theorem oX3_indexOf_L50 (fu : Nat)   (a0 : Nat) (a1 : Int32)  (M : Mm) {out : Int32 × Mm} (hB : Bd RX TX M) (ra0 : RX a0) (h : fX3_indexOf_L50 fu  a0 a1 M = some out) : Sm RX M out.2 ∧ Bd RX TX out.2 := by
  unfold fX3_indexOf_L50 at h
  have hS : Sm RX M M := Sm.rf
  obtain ⟨v1, ev1, h⟩ := bd h
  by_cases hc : v1 < (4 : Int32)
  · have h := (if_pos hc).symm.trans h
    obtain ⟨v2, ev2, h⟩ := bd h
    have iv2 := gR_in hB (show 3 ≤ 11 from by decide) ev2
    obtain ⟨v3, ev3, h⟩ := bd h
    obtain ⟨v4, ev4, h⟩ := bd h
    have iv4 := gB_in hB iv2 ev4
    by_cases hc : v4 = none
    · have h := (if_pos hc).symm.trans h
      obtain ⟨v5, M6, eM6, h⟩ := b2d h
      have w := mkO_own hB (by decide) eM6
      have hS := hS.tr w.1
      have rv5 := w.2.2
      have hB := w.2.1
      obtain ⟨M7, eM7, h⟩ := bd h
      have w := oX2_init fu v5  M6 hB rv5 eM7
      have hS := hS.tr w.1
      have hB := w.2
      obtain ⟨v8, ev8, h⟩ := bd h
      have iv8 := gR_in hB (show 3 ≤ 11 from by decide) ev8
      obtain ⟨v9, ev9, h⟩ := bd h
      obtain ⟨M10, eM10, h⟩ := bd h
      have w := pB_own hB iv8 (inR_some rv5) eM10
      have hS := hS.tr w.1
      have hB := w.2
      have z := oX3_indexOf_L92 fu   a0 a1 (some v5) M10 hB ra0 (inR_some rv5) h
      exact ⟨hS.tr z.1, z.2⟩
    · have h := (if_neg hc).symm.trans h
      have z := oX3_indexOf_L92 fu   a0 a1 v4 M hB ra0 iv4 h
      exact ⟨hS.tr z.1, z.2⟩
  · have h := (if_neg hc).symm.trans h
    obtain rfl := Option.some.inj h
    exact ⟨hS, hB⟩
theorem oX3_indexOf_L44 (fu : Nat) {out : Int32 × Mm} (k2 : Nat → Int32 → Int32 → Mm → Option (Int32 × Mm)) (hk2 : ∀ (b0 : Nat) (b1 : Int32) (b2 : Int32)  (M : Mm), Bd RX TX M → RX b0 → k2 b0 b1 b2 M = some out → Sm RX M out.2 ∧ Bd RX TX out.2) (a0 : Nat) (a1 : Int32) (a2 : Int32)  (M : Mm) (hB : Bd RX TX M) (ra0 : RX a0) (h : fX3_indexOf_L44 fu k2 a0 a1 a2 M = some out) : Sm RX M out.2 ∧ Bd RX TX out.2 := by
  unfold fX3_indexOf_L44 at h
  have hS : Sm RX M M := Sm.rf
  have z := hk2 a0 a1 (a2 + (1 : Int32)) M hB ra0 h
  exact ⟨hS.tr z.1, z.2⟩
theorem oX3_indexOf_L2 (fu : Nat) {out : Int32 × Mm}   : ∀ (n : Nat) (a0 : Nat) (a1 : Int32) (a2 : Int32)  (M : Mm), Bd RX TX M → RX a0 → fX3_indexOf_L2 fu  n a0 a1 a2 M = some out → Sm RX M out.2 ∧ Bd RX TX out.2 := by
  intro n
  induction n with
  | zero =>
    intro a0 a1 a2 M hB ra0 h
    have h : (none : Option (Int32 × Mm)) = some out := h
    cases h
  | succ n ih =>
    intro a0 a1 a2 M hB ra0 h
    rw [fX3_indexOf_L2] at h
    have hS : Sm RX M M := Sm.rf
    obtain ⟨v1, ev1, h⟩ := bd h
    by_cases hc : v1 ≤ a2
    · have h := (if_pos hc).symm.trans h
      have z := oX3_indexOf_L50 fu   a0 a1 M hB ra0 h
      exact ⟨hS.tr z.1, z.2⟩
    · have h := (if_neg hc).symm.trans h
      by_cases hc : (4 : Int32) ≤ a2
      · have h := (if_pos hc).symm.trans h
        have z := oX3_indexOf_L50 fu   a0 a1 M hB ra0 h
        exact ⟨hS.tr z.1, z.2⟩
      · have h := (if_neg hc).symm.trans h
        obtain ⟨v2, ev2, h⟩ := bd h
        have iv2 := gR_in hB (show 3 ≤ 11 from by decide) ev2
        obtain ⟨v3, ev3, h⟩ := bd h
        have iv3 := gB_in hB iv2 ev3
        by_cases hc : v3 = none
        · have h := (if_pos hc).symm.trans h
          have z := oX3_indexOf_L44 fu (fun b0 b1 b2 M => fX3_indexOf_L2 fu  n b0 b1 b2 M) ih a0 a1 a2 M hB ra0 h
          exact ⟨hS.tr z.1, z.2⟩
        · have h := (if_neg hc).symm.trans h
          obtain ⟨v4, ev4, h⟩ := bd h
          obtain ⟨v5, ev5, h⟩ := bd h
          obtain ⟨q6, eq6, h⟩ := bd h
          have rq6 := rc_in hB (show 2 ≤ 11 from by decide) eq6
          obtain ⟨v8, M7, eM7, h⟩ := b2d h
          have w := oX2_isOf fu q6 v4 a1 v5 M hB rq6 eM7
          have hS := hS.tr w.1
          have hB := w.2
          by_cases hc : v8 = 0
          · have h := (if_pos hc).symm.trans h
            have z := oX3_indexOf_L44 fu (fun b0 b1 b2 M => fX3_indexOf_L2 fu  n b0 b1 b2 M) ih a0 a1 a2 M7 hB ra0 h
            exact ⟨hS.tr z.1, z.2⟩
          · have h := (if_neg hc).symm.trans h
            obtain rfl := Option.some.inj h
            exact ⟨hS, hB⟩
theorem oX3_indexOf (fu : Nat)   (a0 : Nat) (a1 : Int32)  (M : Mm) {out : Int32 × Mm} (hB : Bd RX TX M) (ra0 : RX a0) (h : fX3_indexOf fu  a0 a1 M = some out) : Sm RX M out.2 ∧ Bd RX TX out.2 := by
  unfold fX3_indexOf at h
  have hS : Sm RX M M := Sm.rf
  have z := oX3_indexOf_L2 fu   fu a0 a1 (0 : Int32) M hB ra0 h
  exact ⟨hS.tr z.1, z.2⟩
theorem oX3_dropDatagram_L59 (fu : Nat)   (a0 : Nat) (a2 : Option Nat)  (M : Mm) {out : Mm} (hB : Bd RX TX M) (ra0 : RX a0) (ia2 : inR RX a2) (h : fX3_dropDatagram_L59 fu  a0 a2 M = some out) : Sm RX M out ∧ Bd RX TX out := by
  unfold fX3_dropDatagram_L59 at h
  have hS : Sm RX M M := Sm.rf
  obtain ⟨v1, ev1, h⟩ := bd h
  obtain ⟨M2, eM2, h⟩ := bd h
  have w := pF_own hB (show 3 ≤ 11 from by decide) eM2
  have hS := hS.tr w.1
  have hB := w.2
  obtain ⟨v3, ev3, h⟩ := bd h
  have iv3 := gR_in hB (show 3 ≤ 11 from by decide) ev3
  obtain ⟨v4, ev4, h⟩ := bd h
  obtain ⟨M5, eM5, h⟩ := bd h
  have w := pB_own hB iv3 ia2 eM5
  have hS := hS.tr w.1
  have hB := w.2
  obtain rfl := Option.some.inj h
  exact ⟨hS, hB⟩
theorem oX3_dropDatagram_L22 (fu : Nat) {out : Mm}   : ∀ (n : Nat) (a0 : Nat) (a2 : Option Nat) (a3 : Int32)  (M : Mm), Bd RX TX M → RX a0 → inR RX a2 → fX3_dropDatagram_L22 fu  n a0 a2 a3 M = some out → Sm RX M out ∧ Bd RX TX out := by
  intro n
  induction n with
  | zero =>
    intro a0 a2 a3 M hB ra0 ia2 h
    have h : (none : Option (Mm)) = some out := h
    cases h
  | succ n ih =>
    intro a0 a2 a3 M hB ra0 ia2 h
    rw [fX3_dropDatagram_L22] at h
    have hS : Sm RX M M := Sm.rf
    obtain ⟨v1, ev1, h⟩ := bd h
    by_cases hc : v1 ≤ (a3 + (1 : Int32))
    · have h := (if_pos hc).symm.trans h
      have z := oX3_dropDatagram_L59 fu   a0 a2 M hB ra0 ia2 h
      exact ⟨hS.tr z.1, z.2⟩
    · have h := (if_neg hc).symm.trans h
      by_cases hc : (4 : Int32) ≤ (a3 + (1 : Int32))
      · have h := (if_pos hc).symm.trans h
        have z := oX3_dropDatagram_L59 fu   a0 a2 M hB ra0 ia2 h
        exact ⟨hS.tr z.1, z.2⟩
      · have h := (if_neg hc).symm.trans h
        obtain ⟨v2, ev2, h⟩ := bd h
        have iv2 := gR_in hB (show 3 ≤ 11 from by decide) ev2
        obtain ⟨v3, ev3, h⟩ := bd h
        have iv3 := gR_in hB (show 3 ≤ 11 from by decide) ev3
        obtain ⟨v4, ev4, h⟩ := bd h
        have iv4 := gB_in hB iv3 ev4
        obtain ⟨M5, eM5, h⟩ := bd h
        have w := pB_own hB iv2 iv4 eM5
        have hS := hS.tr w.1
        have hB := w.2
        have z := ih a0 a2 (a3 + (1 : Int32)) M5 hB ra0 ia2 h
        exact ⟨hS.tr z.1, z.2⟩
theorem oX3_dropDatagram (fu : Nat)   (a0 : Nat) (a1 : Int32)  (M : Mm) {out : Mm} (hB : Bd RX TX M) (ra0 : RX a0) (h : fX3_dropDatagram fu  a0 a1 M = some out) : Sm RX M out ∧ Bd RX TX out := by
  unfold fX3_dropDatagram at h
  have hS : Sm RX M M := Sm.rf
  by_cases hc : a1 < 0
  · have h := (if_pos hc).symm.trans h
    obtain rfl := Option.some.inj h
    exact ⟨hS, hB⟩
  · have h := (if_neg hc).symm.trans h
    obtain ⟨v1, ev1, h⟩ := bd h
    by_cases hc : a1 < v1
    · have h := (if_pos hc).symm.trans h
      obtain ⟨v2, ev2, h⟩ := bd h
      have iv2 := gR_in hB (show 3 ≤ 11 from by decide) ev2
      obtain ⟨v3, ev3, h⟩ := bd h
      have iv3 := gB_in hB iv2 ev3
      have z := oX3_dropDatagram_L22 fu   fu a0 v3 a1 M hB ra0 iv3 h
      exact ⟨hS.tr z.1, z.2⟩
    · have h := (if_neg hc).symm.trans h
      obtain rfl := Option.some.inj h
      exact ⟨hS, hB⟩
theorem oX3_gather_L157 (fu : Nat)   (a0 : Nat) (a5 : Int32) (a6 : Option Nat)  (M : Mm) {out : Int32 × Mm} (hB : Bd RX TX M) (ra0 : RX a0) (ia6 : inR RX a6) (h : fX3_gather_L157 fu  a0 a5 a6 M = some out) : Sm RX M out.2 ∧ Bd RX TX out.2 := by
  unfold fX3_gather_L157 at h
  have hS : Sm RX M M := Sm.rf
  obtain ⟨q1, eq1, h⟩ := bd h
  have rq1 := rc_in hB (show 2 ≤ 11 from by decide) eq1
  obtain ⟨v3, M2, eM2, h⟩ := b2d h
  have w := oX2_isWhole fu q1  M hB rq1 eM2
  have hS := hS.tr w.1
  have hB := w.2
  by_cases hc : v3 = 0
  · have h := (if_pos hc).symm.trans h
    obtain ⟨hz, rfl⟩ := rN_some h
    exact ⟨hS, hB⟩
  · have h := (if_neg hc).symm.trans h
    obtain ⟨q4, eq4, h⟩ := bd h
    have rq4 := rc_in hB (show 3 ≤ 11 from by decide) eq4
    obtain ⟨M5, eM5, h⟩ := bd h
    have w := oX3_dropDatagram fu q4 a5 M2 hB rq4 eM5
    have hS := hS.tr w.1
    have hB := w.2
    obtain ⟨v6, ev6, h⟩ := bd h
    have iv6 := gR_in hB (show 3 ≤ 11 from by decide) ev6
    obtain ⟨v7, ev7, h⟩ := bd h
    have iv7 := gR_in hB (show 10 ≤ 11 from by decide) ev7
    obtain ⟨v8, ev8, h⟩ := bd h
    obtain ⟨M9, eM9, h⟩ := bd h
    have w := pA_own hB iv7 (by decide) eM9
    have hS := hS.tr w.1
    have hB := w.2
    obtain ⟨v10, ev10, h⟩ := bd h
    have iv10 := gR_in hB (show 2 ≤ 11 from by decide) ev10
    obtain ⟨M11, eM11, h⟩ := bd h
    have w := pG_own hB (show 3 ≤ 11 from by decide) iv10 eM11
    have hS := hS.tr w.1
    have hB := w.2
    obtain ⟨M12, eM12, h⟩ := bd h
    have w := pF_own hB (show 3 ≤ 11 from by decide) eM12
    have hS := hS.tr w.1
    have hB := w.2
    obtain ⟨v13, ev13, h⟩ := bd h
    obtain ⟨M14, eM14, h⟩ := bd h
    have w := pF_own hB (show 3 ≤ 11 from by decide) eM14
    have hS := hS.tr w.1
    have hB := w.2
    obtain ⟨hz, rfl⟩ := rN_some h
    exact ⟨hS, hB⟩
theorem oX3_gather_L47 (fu : Nat)   (a0 : Nat) (a1 : Int32) (a3 : Int32) (a4 : Int32)  (M : Mm) {out : Int32 × Mm} (hB : Bd RX TX M) (ra0 : RX a0) (h : fX3_gather_L47 fu  a0 a1 a3 a4 M = some out) : Sm RX M out.2 ∧ Bd RX TX out.2 := by
  unfold fX3_gather_L47 at h
  have hS : Sm RX M M := Sm.rf
  obtain ⟨v1, ev1, h⟩ := bd h
  by_cases hc : (a4 + v1) ≤ (4096 : Int32)
  · have h := (if_pos hc).symm.trans h
    obtain ⟨q2, eq2, h⟩ := bd h
    have rq2 := rc_in hB (show 3 ≤ 11 from by decide) eq2
    obtain ⟨v4, M3, eM3, h⟩ := b2d h
    have w := oX3_indexOf fu q2 a1 M hB rq2 eM3
    have hS := hS.tr w.1
    have hB := w.2
    by_cases hc : v4 < 0
    · have h := (if_pos hc).symm.trans h
      obtain ⟨hz, rfl⟩ := rN_some h
      exact ⟨hS, hB⟩
    · have h := (if_neg hc).symm.trans h
      by_cases hc : v4 < (4 : Int32)
      · have h := (if_pos hc).symm.trans h
        obtain ⟨v5, ev5, h⟩ := bd h
        have iv5 := gR_in hB (show 3 ≤ 11 from by decide) ev5
        obtain ⟨v6, ev6, h⟩ := bd h
        have iv6 := gB_in hB iv5 ev6
        by_cases hc : v6 = none
        · have h := (if_pos hc).symm.trans h
          obtain ⟨hz, rfl⟩ := rN_some h
          exact ⟨hS, hB⟩
        · have h := (if_neg hc).symm.trans h
          obtain ⟨v7, ev7, h⟩ := bd h
          obtain ⟨q8, eq8, h⟩ := bd h
          have rq8 := rc_in hB (show 2 ≤ 11 from by decide) eq8
          obtain ⟨v10, M9, eM9, h⟩ := b2d h
          have w := oX2_agrees fu q8 (a4 + v7) a3 M3 hB rq8 eM9
          have hS := hS.tr w.1
          have hB := w.2
          by_cases hc : v10 = 0
          · have h := (if_pos hc).symm.trans h
            obtain ⟨q18, eq18, h⟩ := bd h
            have rq18 := rc_in hB (show 3 ≤ 11 from by decide) eq18
            obtain ⟨M19, eM19, h⟩ := bd h
            have w := oX3_dropDatagram fu q18 v4 M9 hB rq18 eM19
            have hS := hS.tr w.1
            have hB := w.2
            obtain ⟨hz, rfl⟩ := rN_some h
            exact ⟨hS, hB⟩
          · have h := (if_neg hc).symm.trans h
            obtain ⟨v11, ev11, h⟩ := bd h
            have iv11 := gR_in hB (show 3 ≤ 11 from by decide) ev11
            obtain ⟨v12, ev12, h⟩ := bd h
            obtain ⟨v13, ev13, h⟩ := bd h
            obtain ⟨q14, eq14, h⟩ := bd h
            have rq14 := rc_in hB (show 2 ≤ 11 from by decide) eq14
            obtain ⟨M15, eM15, h⟩ := bd h
            have w := oX2_put fu q14 v11 v12 a4 v13 M9 hB rq14 iv11 eM15
            have hS := hS.tr w.1
            have hB := w.2
            by_cases hc : a3 = 0
            · have h := (if_pos hc).symm.trans h
              obtain ⟨v16, ev16, h⟩ := bd h
              obtain ⟨M17, eM17, h⟩ := bd h
              have w := pF_own hB (show 2 ≤ 11 from by decide) eM17
              have hS := hS.tr w.1
              have hB := w.2
              have z := oX3_gather_L157 fu   a0 v4 v6 M17 hB ra0 iv6 h
              exact ⟨hS.tr z.1, z.2⟩
            · have h := (if_neg hc).symm.trans h
              have z := oX3_gather_L157 fu   a0 v4 v6 M15 hB ra0 iv6 h
              exact ⟨hS.tr z.1, z.2⟩
      · have h := (if_neg hc).symm.trans h
        obtain ⟨hz, rfl⟩ := rN_some h
        exact ⟨hS, hB⟩
  · have h := (if_neg hc).symm.trans h
    obtain ⟨hz, rfl⟩ := rN_some h
    exact ⟨hS, hB⟩
theorem oX3_gather_L13 (fu : Nat)   (a0 : Nat) (a1 : Int32) (a2 : Int32) (s0 : Int32) (M : Mm) {out : Int32 × Mm} (hB : Bd RX TX M) (ra0 : RX a0) (h : fX3_gather_L13 fu  a0 a1 a2 s0 M = some out) : Sm RX M out.2 ∧ Bd RX TX out.2 := by
  unfold fX3_gather_L13 at h
  have hS : Sm RX M M := Sm.rf
  by_cases hc : s0 = 0
  · have h := (if_pos hc).symm.trans h
    have z := oX3_gather_L47 fu   a0 a1 s0 ((a2 &&& (8191 : Int32)) * (8 : Int32)) M hB ra0 h
    exact ⟨hS.tr z.1, z.2⟩
  · have h := (if_neg hc).symm.trans h
    obtain ⟨v1, ev1, h⟩ := bd h
    by_cases hc : v1 < (8 : Int32)
    · have h := (if_pos hc).symm.trans h
      obtain ⟨hz, rfl⟩ := rN_some h
      exact ⟨hS, hB⟩
    · have h := (if_neg hc).symm.trans h
      obtain ⟨v2, ev2, h⟩ := bd h
      by_cases hc : (irm v2 (8 : Int32)) = 0
      · have h := (if_pos hc).symm.trans h
        have z := oX3_gather_L47 fu   a0 a1 s0 ((a2 &&& (8191 : Int32)) * (8 : Int32)) M hB ra0 h
        exact ⟨hS.tr z.1, z.2⟩
      · have h := (if_neg hc).symm.trans h
        obtain ⟨hz, rfl⟩ := rN_some h
        exact ⟨hS, hB⟩
theorem oX3_gather (fu : Nat)   (a0 : Nat) (a1 : Int32) (a2 : Int32)  (M : Mm) {out : Int32 × Mm} (hB : Bd RX TX M) (ra0 : RX a0) (h : fX3_gather fu  a0 a1 a2 M = some out) : Sm RX M out.2 ∧ Bd RX TX out.2 := by
  unfold fX3_gather at h
  have hS : Sm RX M M := Sm.rf
  by_cases hc : (a2 &&& (8192 : Int32)) = 0
  · have h := (if_pos hc).symm.trans h
    have z := oX3_gather_L13 fu   a0 a1 a2 (0 : Int32) M hB ra0 h
    exact ⟨hS.tr z.1, z.2⟩
  · have h := (if_neg hc).symm.trans h
    have z := oX3_gather_L13 fu   a0 a1 a2 (1 : Int32) M hB ra0 h
    exact ⟨hS.tr z.1, z.2⟩
theorem oX3_readPacket (fu : Nat)   (a0 : Nat) (a1 : Option Nat) (a2 : Int32)  (M : Mm) {out : Int32 × Mm} (hB : Bd RX TX M) (ra0 : RX a0) (ia1 : inR RX a1) (h : fX3_readPacket fu  a0 a1 a2 M = some out) : Sm RX M out.2 ∧ Bd RX TX out.2 := by
  unfold fX3_readPacket at h
  have hS : Sm RX M M := Sm.rf
  obtain ⟨v2, M1, eM1, h⟩ := b2d h
  have w := oX11_one fu  a1 (14 : Int32) M hB ia1 eM1
  have hS := hS.tr w.1
  have hB := w.2
  obtain ⟨v4, M3, eM3, h⟩ := b2d h
  have w := oX11_two fu  a1 (16 : Int32) M1 hB ia1 eM3
  have hS := hS.tr w.1
  have hB := w.2
  by_cases hc : a2 < (20 : Int32)
  · have h := (if_pos hc).symm.trans h
    obtain ⟨hz, rfl⟩ := rN_some h
    exact ⟨hS, hB⟩
  · have h := (if_neg hc).symm.trans h
    obtain ⟨v6, M5, eM5, h⟩ := b2d h
    have w := oX11_one fu  a1 (14 : Int32) M3 hB ia1 eM5
    have hS := hS.tr w.1
    have hB := w.2
    by_cases hc : (v6 >>> ((4 : Int32) &&& 31)) = (4 : Int32)
    · have h := (if_pos hc).symm.trans h
      by_cases hc : (20 : Int32) ≤ ((v2 &&& (15 : Int32)) * (4 : Int32))
      · have h := (if_pos hc).symm.trans h
        by_cases hc : v4 < ((v2 &&& (15 : Int32)) * (4 : Int32))
        · have h := (if_pos hc).symm.trans h
          obtain ⟨hz, rfl⟩ := rN_some h
          exact ⟨hS, hB⟩
        · have h := (if_neg hc).symm.trans h
          by_cases hc : a2 < v4
          · have h := (if_pos hc).symm.trans h
            obtain ⟨hz, rfl⟩ := rN_some h
            exact ⟨hS, hB⟩
          · have h := (if_neg hc).symm.trans h
            obtain ⟨v8, M7, eM7, h⟩ := b2d h
            have w := oX11_added fu  a1 (14 : Int32) ((v2 &&& (15 : Int32)) * (4 : Int32)) (0 : Int32) M5 hB ia1 eM7
            have hS := hS.tr w.1
            have hB := w.2
            by_cases hc : v8 = (65535 : Int32)
            · have h := (if_pos hc).symm.trans h
              obtain ⟨v10, M9, eM9, h⟩ := b2d h
              have w := oX11_four fu  a1 (26 : Int32) M7 hB ia1 eM9
              have hS := hS.tr w.1
              have hB := w.2
              obtain ⟨M11, eM11, h⟩ := bd h
              have w := pF_own hB (show 3 ≤ 11 from by decide) eM11
              have hS := hS.tr w.1
              have hB := w.2
              obtain ⟨v13, M12, eM12, h⟩ := b2d h
              have w := oX11_four fu  a1 (30 : Int32) M11 hB ia1 eM12
              have hS := hS.tr w.1
              have hB := w.2
              obtain ⟨v14, ev14, h⟩ := bd h
              have iv14 := gR_in hB (show 3 ≤ 11 from by decide) ev14
              obtain ⟨v15, ev15, h⟩ := bd h
              by_cases hc : v13 = v15
              · have h := (if_pos hc).symm.trans h
                obtain ⟨v16, ev16, h⟩ := bd h
                obtain ⟨v17, ev17, h⟩ := bd h
                have iv17 := gR_in hB (show 3 ≤ 11 from by decide) ev17
                obtain ⟨v18, ev18, h⟩ := bd h
                by_cases hc : v16 = v18
                · have h := (if_pos hc).symm.trans h
                  obtain ⟨hz, rfl⟩ := rN_some h
                  exact ⟨hS, hB⟩
                · have h := (if_neg hc).symm.trans h
                  obtain ⟨v19, ev19, h⟩ := bd h
                  obtain ⟨v21, M20, eM20, h⟩ := b2d h
                  have w := oX11_isHostNumber fu  v19 M12 hB  eM20
                  have hS := hS.tr w.1
                  have hB := w.2
                  by_cases hc : v21 = 0
                  · have h := (if_pos hc).symm.trans h
                    obtain ⟨hz, rfl⟩ := rN_some h
                    exact ⟨hS, hB⟩
                  · have h := (if_neg hc).symm.trans h
                    obtain ⟨v23, M22, eM22, h⟩ := b2d h
                    have w := oX11_one fu  a1 (23 : Int32) M20 hB ia1 eM22
                    have hS := hS.tr w.1
                    have hB := w.2
                    obtain ⟨M24, eM24, h⟩ := bd h
                    have w := pF_own hB (show 3 ≤ 11 from by decide) eM24
                    have hS := hS.tr w.1
                    have hB := w.2
                    obtain ⟨M25, eM25, h⟩ := bd h
                    have w := pG_own hB (show 3 ≤ 11 from by decide) ia1 eM25
                    have hS := hS.tr w.1
                    have hB := w.2
                    obtain ⟨M26, eM26, h⟩ := bd h
                    have w := pF_own hB (show 3 ≤ 11 from by decide) eM26
                    have hS := hS.tr w.1
                    have hB := w.2
                    obtain ⟨M27, eM27, h⟩ := bd h
                    have w := pF_own hB (show 3 ≤ 11 from by decide) eM27
                    have hS := hS.tr w.1
                    have hB := w.2
                    obtain ⟨v29, M28, eM28, h⟩ := b2d h
                    have w := oX11_two fu  a1 (20 : Int32) M27 hB ia1 eM28
                    have hS := hS.tr w.1
                    have hB := w.2
                    by_cases hc : (v29 &&& (16383 : Int32)) = 0
                    · have h := (if_pos hc).symm.trans h
                      obtain ⟨hz, rfl⟩ := rN_some h
                      exact ⟨hS, hB⟩
                    · have h := (if_neg hc).symm.trans h
                      obtain ⟨v31, M30, eM30, h⟩ := b2d h
                      have w := oX11_two fu  a1 (18 : Int32) M28 hB ia1 eM30
                      have hS := hS.tr w.1
                      have hB := w.2
                      obtain ⟨q32, eq32, h⟩ := bd h
                      have rq32 := rc_in hB (show 3 ≤ 11 from by decide) eq32
                      obtain ⟨v34, M33, eM33, h⟩ := b2d h
                      have w := oX3_gather fu q32 v31 (v29 &&& (16383 : Int32)) M30 hB rq32 eM33
                      have hS := hS.tr w.1
                      have hB := w.2
                      by_cases hc : v34 = 0
                      · have h := (if_pos hc).symm.trans h
                        obtain ⟨hz, rfl⟩ := rN_some h
                        exact ⟨hS, hB⟩
                      · have h := (if_neg hc).symm.trans h
                        obtain ⟨hz, rfl⟩ := rN_some h
                        exact ⟨hS, hB⟩
              · have h := (if_neg hc).symm.trans h
                obtain ⟨hz, rfl⟩ := rN_some h
                exact ⟨hS, hB⟩
            · have h := (if_neg hc).symm.trans h
              obtain ⟨hz, rfl⟩ := rN_some h
              exact ⟨hS, hB⟩
      · have h := (if_neg hc).symm.trans h
        obtain ⟨hz, rfl⟩ := rN_some h
        exact ⟨hS, hB⟩
    · have h := (if_neg hc).symm.trans h
      obtain ⟨hz, rfl⟩ := rN_some h
      exact ⟨hS, hB⟩
theorem oX3_read (fu : Nat)   (a0 : Nat) (a1 : Option Nat) (a2 : Int32)  (M : Mm) {out : Int32 × Mm} (hB : Bd RX TX M) (ra0 : RX a0) (ia1 : inR RX a1) (h : fX3_read fu  a0 a1 a2 M = some out) : Sm RX M out.2 ∧ Bd RX TX out.2 := by
  unfold fX3_read at h
  have hS : Sm RX M M := Sm.rf
  by_cases hc : a2 < (14 : Int32)
  · have h := (if_pos hc).symm.trans h
    obtain rfl := Option.some.inj h
    exact ⟨hS, hB⟩
  · have h := (if_neg hc).symm.trans h
    obtain ⟨q1, eq1, h⟩ := bd h
    have rq1 := rc_in hB (show 3 ≤ 11 from by decide) eq1
    obtain ⟨v3, M2, eM2, h⟩ := b2d h
    have w := oX3_isForUs fu q1 a1 M hB rq1 ia1 eM2
    have hS := hS.tr w.1
    have hB := w.2
    by_cases hc : v3 = 0
    · have h := (if_pos hc).symm.trans h
      obtain rfl := Option.some.inj h
      exact ⟨hS, hB⟩
    · have h := (if_neg hc).symm.trans h
      obtain ⟨v5, M4, eM4, h⟩ := b2d h
      have w := oX11_two fu  a1 (12 : Int32) M2 hB ia1 eM4
      have hS := hS.tr w.1
      have hB := w.2
      by_cases hc : v5 = (2054 : Int32)
      · have h := (if_pos hc).symm.trans h
        obtain rfl := Option.some.inj h
        exact ⟨hS, hB⟩
      · have h := (if_neg hc).symm.trans h
        by_cases hc : v5 = (2048 : Int32)
        · have h := (if_pos hc).symm.trans h
          obtain ⟨q6, eq6, h⟩ := bd h
          have rq6 := rc_in hB (show 3 ≤ 11 from by decide) eq6
          obtain ⟨v8, M7, eM7, h⟩ := b2d h
          have w := oX3_readPacket fu q6 a1 (a2 - (14 : Int32)) M4 hB rq6 ia1 eM7
          have hS := hS.tr w.1
          have hB := w.2
          by_cases hc : v8 = 0
          · have h := (if_pos hc).symm.trans h
            obtain rfl := Option.some.inj h
            exact ⟨hS, hB⟩
          · have h := (if_neg hc).symm.trans h
            obtain ⟨v9, ev9, h⟩ := bd h
            obtain rfl := Option.some.inj h
            exact ⟨hS, hB⟩
        · have h := (if_neg hc).symm.trans h
          obtain rfl := Option.some.inj h
          exact ⟨hS, hB⟩
theorem oX3_earliest (fu : Nat)   (a0 : Nat)  (M : Mm) {out : Int32 × Mm} (hB : Bd RX TX M) (ra0 : RX a0) (h : fX3_earliest fu  a0 M = some out) : Sm RX M out.2 ∧ Bd RX TX out.2 := by
  unfold fX3_earliest at h
  have hS : Sm RX M M := Sm.rf
  obtain ⟨v1, ev1, h⟩ := bd h
  have iv1 := gR_in hB (show 3 ≤ 11 from by decide) ev1
  obtain ⟨v2, ev2, h⟩ := bd h
  have iv2 := gB_in hB iv1 ev2
  obtain ⟨v3, ev3, h⟩ := bd h
  by_cases hc : v3 = 0
  · have h := (if_pos hc).symm.trans h
    obtain rfl := Option.some.inj h
    exact ⟨hS, hB⟩
  · have h := (if_neg hc).symm.trans h
    by_cases hc : v2 = none
    · have h := (if_pos hc).symm.trans h
      obtain rfl := Option.some.inj h
      exact ⟨hS, hB⟩
    · have h := (if_neg hc).symm.trans h
      obtain ⟨v4, ev4, h⟩ := bd h
      obtain rfl := Option.some.inj h
      exact ⟨hS, hB⟩
theorem oX3_expire (fu : Nat)   (a0 : Nat) (a1 : Int32)  (M : Mm) {out : Int32 × Mm} (hB : Bd RX TX M) (ra0 : RX a0) (h : fX3_expire fu  a0 a1 M = some out) : Sm RX M out.2 ∧ Bd RX TX out.2 := by
  unfold fX3_expire at h
  have hS : Sm RX M M := Sm.rf
  obtain ⟨q1, eq1, h⟩ := bd h
  have rq1 := rc_in hB (show 3 ≤ 11 from by decide) eq1
  obtain ⟨v3, M2, eM2, h⟩ := b2d h
  have w := oX3_earliest fu q1  M hB rq1 eM2
  have hS := hS.tr w.1
  have hB := w.2
  by_cases hc : v3 = a1
  · have h := (if_pos hc).symm.trans h
    obtain ⟨q4, eq4, h⟩ := bd h
    have rq4 := rc_in hB (show 3 ≤ 11 from by decide) eq4
    obtain ⟨M5, eM5, h⟩ := bd h
    have w := oX3_dropDatagram fu q4 (0 : Int32) M2 hB rq4 eM5
    have hS := hS.tr w.1
    have hB := w.2
    obtain ⟨hz, rfl⟩ := rN_some h
    exact ⟨hS, hB⟩
  · have h := (if_neg hc).symm.trans h
    obtain ⟨hz, rfl⟩ := rN_some h
    exact ⟨hS, hB⟩
theorem oX11_putFour (fu : Nat)   (a0 : Option Nat) (a1 : Int32) (a2 : Int32)  (M : Mm) {out : Mm} (hB : Bd RX TX M) (ia0 : inR RX a0) (h : fX11_putFour fu  a0 a1 a2 M = some out) : Sm RX M out ∧ Bd RX TX out := by
  unfold fX11_putFour at h
  have hS : Sm RX M M := Sm.rf
  by_cases hc : a1 < 0
  · have h := (if_pos hc).symm.trans h
    obtain rfl := Option.some.inj h
    exact ⟨hS, hB⟩
  · have h := (if_neg hc).symm.trans h
    obtain ⟨v1, ev1, h⟩ := bd h
    by_cases hc : (v1 - (4 : Int32)) < a1
    · have h := (if_pos hc).symm.trans h
      obtain rfl := Option.some.inj h
      exact ⟨hS, hB⟩
    · have h := (if_neg hc).symm.trans h
      obtain ⟨M2, eM2, h⟩ := bd h
      have w := pA_ownB hB ia0 eM2
      have hS := hS.tr w.1
      have hB := w.2
      obtain ⟨M3, eM3, h⟩ := bd h
      have w := pA_ownB hB ia0 eM3
      have hS := hS.tr w.1
      have hB := w.2
      obtain ⟨M4, eM4, h⟩ := bd h
      have w := pA_ownB hB ia0 eM4
      have hS := hS.tr w.1
      have hB := w.2
      obtain ⟨M5, eM5, h⟩ := bd h
      have w := pA_ownB hB ia0 eM5
      have hS := hS.tr w.1
      have hB := w.2
      obtain rfl := Option.some.inj h
      exact ⟨hS, hB⟩
theorem oX11_putTwo (fu : Nat)   (a0 : Option Nat) (a1 : Int32) (a2 : Int32)  (M : Mm) {out : Mm} (hB : Bd RX TX M) (ia0 : inR RX a0) (h : fX11_putTwo fu  a0 a1 a2 M = some out) : Sm RX M out ∧ Bd RX TX out := by
  unfold fX11_putTwo at h
  have hS : Sm RX M M := Sm.rf
  by_cases hc : a1 < 0
  · have h := (if_pos hc).symm.trans h
    obtain rfl := Option.some.inj h
    exact ⟨hS, hB⟩
  · have h := (if_neg hc).symm.trans h
    obtain ⟨v1, ev1, h⟩ := bd h
    by_cases hc : (v1 - (2 : Int32)) < a1
    · have h := (if_pos hc).symm.trans h
      obtain rfl := Option.some.inj h
      exact ⟨hS, hB⟩
    · have h := (if_neg hc).symm.trans h
      obtain ⟨M2, eM2, h⟩ := bd h
      have w := pA_ownB hB ia0 eM2
      have hS := hS.tr w.1
      have hB := w.2
      obtain ⟨M3, eM3, h⟩ := bd h
      have w := pA_ownB hB ia0 eM3
      have hS := hS.tr w.1
      have hB := w.2
      obtain rfl := Option.some.inj h
      exact ⟨hS, hB⟩
theorem oX4_fillHeader (fu : Nat)   (a0 : Nat) (a1 : Int32) (a2 : Int32) (a3 : Int32)  (M : Mm) {out : Mm} (hB : Bd RX TX M) (ra0 : RX a0) (h : fX4_fillHeader fu  a0 a1 a2 a3 M = some out) : Sm RX M out ∧ Bd RX TX out := by
  unfold fX4_fillHeader at h
  have hS : Sm RX M M := Sm.rf
  obtain ⟨v1, ev1, h⟩ := bd h
  have iv1 := gR_in hB (show 4 ≤ 11 from by decide) ev1
  obtain ⟨M2, eM2, h⟩ := bd h
  have w := oX11_putTwo fu  v1 (14 : Int32) (17664 : Int32) M hB iv1 eM2
  have hS := hS.tr w.1
  have hB := w.2
  obtain ⟨v3, ev3, h⟩ := bd h
  have iv3 := gR_in hB (show 4 ≤ 11 from by decide) ev3
  obtain ⟨M4, eM4, h⟩ := bd h
  have w := oX11_putTwo fu  v3 (16 : Int32) ((20 : Int32) + a3) M2 hB iv3 eM4
  have hS := hS.tr w.1
  have hB := w.2
  obtain ⟨v5, ev5, h⟩ := bd h
  have iv5 := gR_in hB (show 4 ≤ 11 from by decide) ev5
  obtain ⟨v6, ev6, h⟩ := bd h
  obtain ⟨M7, eM7, h⟩ := bd h
  have w := oX11_putTwo fu  v5 (18 : Int32) v6 M4 hB iv5 eM7
  have hS := hS.tr w.1
  have hB := w.2
  obtain ⟨v8, ev8, h⟩ := bd h
  have iv8 := gR_in hB (show 4 ≤ 11 from by decide) ev8
  obtain ⟨M9, eM9, h⟩ := bd h
  have w := oX11_putTwo fu  v8 (20 : Int32) (16384 : Int32) M7 hB iv8 eM9
  have hS := hS.tr w.1
  have hB := w.2
  obtain ⟨v10, ev10, h⟩ := bd h
  have iv10 := gR_in hB (show 4 ≤ 11 from by decide) ev10
  obtain ⟨M11, eM11, h⟩ := bd h
  have w := oX11_putTwo fu  v10 (22 : Int32) ((16384 : Int32) ||| a2) M9 hB iv10 eM11
  have hS := hS.tr w.1
  have hB := w.2
  obtain ⟨v12, ev12, h⟩ := bd h
  have iv12 := gR_in hB (show 4 ≤ 11 from by decide) ev12
  obtain ⟨M13, eM13, h⟩ := bd h
  have w := oX11_putTwo fu  v12 (24 : Int32) (0 : Int32) M11 hB iv12 eM13
  have hS := hS.tr w.1
  have hB := w.2
  obtain ⟨v14, ev14, h⟩ := bd h
  have iv14 := gR_in hB (show 4 ≤ 11 from by decide) ev14
  obtain ⟨v15, ev15, h⟩ := bd h
  obtain ⟨M16, eM16, h⟩ := bd h
  have w := oX11_putFour fu  v14 (26 : Int32) v15 M13 hB iv14 eM16
  have hS := hS.tr w.1
  have hB := w.2
  obtain ⟨v17, ev17, h⟩ := bd h
  have iv17 := gR_in hB (show 4 ≤ 11 from by decide) ev17
  obtain ⟨M18, eM18, h⟩ := bd h
  have w := oX11_putFour fu  v17 (30 : Int32) a1 M16 hB iv17 eM18
  have hS := hS.tr w.1
  have hB := w.2
  obtain ⟨v19, ev19, h⟩ := bd h
  have iv19 := gR_in hB (show 4 ≤ 11 from by decide) ev19
  obtain ⟨v20, ev20, h⟩ := bd h
  have iv20 := gR_in hB (show 4 ≤ 11 from by decide) ev20
  obtain ⟨v22, M21, eM21, h⟩ := b2d h
  have w := oX11_added fu  v20 (14 : Int32) (20 : Int32) (0 : Int32) M18 hB iv20 eM21
  have hS := hS.tr w.1
  have hB := w.2
  obtain ⟨M23, eM23, h⟩ := bd h
  have w := oX11_putTwo fu  v19 (24 : Int32) (v22 ^^^ (-1 : Int32)) M21 hB iv19 eM23
  have hS := hS.tr w.1
  have hB := w.2
  obtain ⟨v24, ev24, h⟩ := bd h
  obtain ⟨M25, eM25, h⟩ := bd h
  have w := pF_own hB (show 4 ≤ 11 from by decide) eM25
  have hS := hS.tr w.1
  have hB := w.2
  obtain rfl := Option.some.inj h
  exact ⟨hS, hB⟩
theorem oX4_entryOf_L2 (fu : Nat) {out : Int32 × Mm}   : ∀ (n : Nat) (a0 : Nat) (a1 : Int32) (a2 : Int32)  (M : Mm), Bd RX TX M → RX a0 → fX4_entryOf_L2 fu  n a0 a1 a2 M = some out → Sm RX M out.2 ∧ Bd RX TX out.2 := by
  intro n
  induction n with
  | zero =>
    intro a0 a1 a2 M hB ra0 h
    have h : (none : Option (Int32 × Mm)) = some out := h
    cases h
  | succ n ih =>
    intro a0 a1 a2 M hB ra0 h
    rw [fX4_entryOf_L2] at h
    have hS : Sm RX M M := Sm.rf
    obtain ⟨v1, ev1, h⟩ := bd h
    by_cases hc : v1 ≤ a2
    · have h := (if_pos hc).symm.trans h
      obtain rfl := Option.some.inj h
      exact ⟨hS, hB⟩
    · have h := (if_neg hc).symm.trans h
      by_cases hc : (16 : Int32) ≤ a2
      · have h := (if_pos hc).symm.trans h
        obtain rfl := Option.some.inj h
        exact ⟨hS, hB⟩
      · have h := (if_neg hc).symm.trans h
        obtain ⟨v2, ev2, h⟩ := bd h
        have iv2 := gR_in hB (show 4 ≤ 11 from by decide) ev2
        obtain ⟨v3, ev3, h⟩ := bd h
        by_cases hc : v3 = a1
        · have h := (if_pos hc).symm.trans h
          obtain rfl := Option.some.inj h
          exact ⟨hS, hB⟩
        · have h := (if_neg hc).symm.trans h
          have z := ih a0 a1 (a2 + (1 : Int32)) M hB ra0 h
          exact ⟨hS.tr z.1, z.2⟩
theorem oX4_entryOf (fu : Nat)   (a0 : Nat) (a1 : Int32)  (M : Mm) {out : Int32 × Mm} (hB : Bd RX TX M) (ra0 : RX a0) (h : fX4_entryOf fu  a0 a1 M = some out) : Sm RX M out.2 ∧ Bd RX TX out.2 := by
  unfold fX4_entryOf at h
  have hS : Sm RX M M := Sm.rf
  have z := oX4_entryOf_L2 fu   fu a0 a1 (0 : Int32) M hB ra0 h
  exact ⟨hS.tr z.1, z.2⟩
theorem oX4_counting (fu : Nat)   (a0 : Nat) (a1 : Int32)  (M : Mm) {out : Int32 × Mm} (hB : Bd RX TX M) (ra0 : RX a0) (h : fX4_counting fu  a0 a1 M = some out) : Sm RX M out.2 ∧ Bd RX TX out.2 := by
  unfold fX4_counting at h
  have hS : Sm RX M M := Sm.rf
  obtain ⟨q1, eq1, h⟩ := bd h
  have rq1 := rc_in hB (show 4 ≤ 11 from by decide) eq1
  obtain ⟨v3, M2, eM2, h⟩ := b2d h
  have w := oX4_entryOf fu q1 a1 M hB rq1 eM2
  have hS := hS.tr w.1
  have hB := w.2
  by_cases hc : v3 < 0
  · have h := (if_pos hc).symm.trans h
    obtain rfl := Option.some.inj h
    exact ⟨hS, hB⟩
  · have h := (if_neg hc).symm.trans h
    obtain ⟨v4, ev4, h⟩ := bd h
    have iv4 := gR_in hB (show 4 ≤ 11 from by decide) ev4
    obtain ⟨v5, ev5, h⟩ := bd h
    obtain ⟨v6, ev6, h⟩ := bd h
    have iv6 := gR_in hB (show 4 ≤ 11 from by decide) ev6
    obtain ⟨v7, ev7, h⟩ := bd h
    by_cases hc : (60000 : Int32) ≤ (v5 - v7)
    · have h := (if_pos hc).symm.trans h
      obtain rfl := Option.some.inj h
      exact ⟨hS, hB⟩
    · have h := (if_neg hc).symm.trans h
      obtain rfl := Option.some.inj h
      exact ⟨hS, hB⟩
theorem oX4_fillLink (fu : Nat)   (a0 : Nat) (a1 : Option Nat) (a2 : Int32) (a3 : Int32) (a4 : Int32)  (M : Mm) {out : Mm} (hB : Bd RX TX M) (ra0 : RX a0) (ia1 : inR RX a1) (h : fX4_fillLink fu  a0 a1 a2 a3 a4 M = some out) : Sm RX M out ∧ Bd RX TX out := by
  unfold fX4_fillLink at h
  have hS : Sm RX M M := Sm.rf
  obtain ⟨M1, eM1, h⟩ := bd h
  have w := oX11_putTwo fu  a1 (0 : Int32) a2 M hB ia1 eM1
  have hS := hS.tr w.1
  have hB := w.2
  obtain ⟨M2, eM2, h⟩ := bd h
  have w := oX11_putFour fu  a1 (2 : Int32) a3 M1 hB ia1 eM2
  have hS := hS.tr w.1
  have hB := w.2
  obtain ⟨v3, ev3, h⟩ := bd h
  obtain ⟨M4, eM4, h⟩ := bd h
  have w := oX11_putTwo fu  a1 (6 : Int32) v3 M2 hB ia1 eM4
  have hS := hS.tr w.1
  have hB := w.2
  obtain ⟨v5, ev5, h⟩ := bd h
  obtain ⟨M6, eM6, h⟩ := bd h
  have w := oX11_putFour fu  a1 (8 : Int32) v5 M4 hB ia1 eM6
  have hS := hS.tr w.1
  have hB := w.2
  obtain ⟨M7, eM7, h⟩ := bd h
  have w := oX11_putTwo fu  a1 (12 : Int32) a4 M6 hB ia1 eM7
  have hS := hS.tr w.1
  have hB := w.2
  obtain rfl := Option.some.inj h
  exact ⟨hS, hB⟩
theorem oX6_init (fu : Nat)   (a0 : Nat)  (M : Mm) {out : Mm} (hB : Bd RX TX M) (ra0 : RX a0) (h : fX6_init fu  a0 M = some out) : Sm RX M out ∧ Bd RX TX out := by
  unfold fX6_init at h
  have hS : Sm RX M M := Sm.rf
  obtain ⟨v1, M2, eM2, h⟩ := b2d h
  have w := mkA_own hB (by decide) eM2
  have hS := hS.tr w.1
  have rv1 := w.2.2
  have hB := w.2.1
  obtain ⟨M3, eM3, h⟩ := bd h
  have w := pG_own hB (show 6 ≤ 11 from by decide) (inR_some rv1) eM3
  have hS := hS.tr w.1
  have hB := w.2
  obtain rfl := Option.some.inj h
  exact ⟨hS, hB⟩
theorem oX10_put_L19 (fu : Nat)   (a0 : Nat)  (M : Mm) {out : Mm} (hB : Bd RX TX M) (ra0 : RX a0) (h : fX10_put_L19 fu  a0 M = some out) : Sm RX M out ∧ Bd RX TX out := by
  unfold fX10_put_L19 at h
  have hS : Sm RX M M := Sm.rf
  obtain ⟨v1, ev1, h⟩ := bd h
  obtain ⟨M2, eM2, h⟩ := bd h
  have w := pF_own hB (show 10 ≤ 11 from by decide) eM2
  have hS := hS.tr w.1
  have hB := w.2
  obtain rfl := Option.some.inj h
  exact ⟨hS, hB⟩
theorem oX10_put_L88 (fu : Nat) {out : Mm}   : ∀ (n : Nat) (a0 : Nat) (a2 : Int32) (a4 : Option Nat) (a5 : Int32)  (M : Mm), Bd RX TX M → RX a0 → inR RX a4 → fX10_put_L88 fu  n a0 a2 a4 a5 M = some out → Sm RX M out ∧ Bd RX TX out := by
  intro n
  induction n with
  | zero =>
    intro a0 a2 a4 a5 M hB ra0 ia4 h
    have h : (none : Option (Mm)) = some out := h
    cases h
  | succ n ih =>
    intro a0 a2 a4 a5 M hB ra0 ia4 h
    rw [fX10_put_L88] at h
    have hS : Sm RX M M := Sm.rf
    by_cases hc : (60 : Int32) ≤ a5
    · have h := (if_pos hc).symm.trans h
      obtain ⟨M1, eM1, h⟩ := bd h
      have w := pF_own hB (show 6 ≤ 11 from by decide) eM1
      have hS := hS.tr w.1
      have hB := w.2
      obtain ⟨v2, ev2, h⟩ := bd h
      obtain ⟨M3, eM3, h⟩ := bd h
      have w := pF_own hB (show 6 ≤ 11 from by decide) eM3
      have hS := hS.tr w.1
      have hB := w.2
      obtain ⟨v4, ev4, h⟩ := bd h
      obtain ⟨M5, eM5, h⟩ := bd h
      have w := pF_own hB (show 10 ≤ 11 from by decide) eM5
      have hS := hS.tr w.1
      have hB := w.2
      obtain rfl := Option.some.inj h
      exact ⟨hS, hB⟩
    · have h := (if_neg hc).symm.trans h
      obtain ⟨v6, ev6, h⟩ := bd h
      have iv6 := gR_in hB (show 6 ≤ 11 from by decide) ev6
      obtain ⟨M7, eM7, h⟩ := bd h
      have w := pA_ownB hB iv6 eM7
      have hS := hS.tr w.1
      have hB := w.2
      have z := ih a0 a2 a4 (a5 + (1 : Int32)) M7 hB ra0 ia4 h
      exact ⟨hS.tr z.1, z.2⟩
theorem oX10_put_L73 (fu : Nat)   (a0 : Nat) (a1 : Option Nat) (a2 : Int32) (a4 : Option Nat)  (M : Mm) {out : Mm} (hB : Bd RX TX M) (ra0 : RX a0) (ia1 : inR RX a1) (ia4 : inR RX a4) (h : fX10_put_L73 fu  a0 a1 a2 a4 M = some out) : Sm RX M out ∧ Bd RX TX out := by
  unfold fX10_put_L73 at h
  have hS : Sm RX M M := Sm.rf
  obtain ⟨v1, ev1, h⟩ := bd h
  have iv1 := gR_in hB (show 6 ≤ 11 from by decide) ev1
  obtain ⟨M2, eM2, h⟩ := bd h
  have w := cpB_own hB iv1 eM2
  have hS := hS.tr w.1
  have hB := w.2
  have z := oX10_put_L88 fu   fu a0 a2 a4 a2 M2 hB ra0 ia4 h
  exact ⟨hS.tr z.1, z.2⟩
theorem oX10_put (fu : Nat)   (a0 : Nat) (a1 : Option Nat) (a2 : Int32)  (M : Mm) {out : Mm} (hB : Bd RX TX M) (ra0 : RX a0) (ia1 : inR RX a1) (h : fX10_put fu  a0 a1 a2 M = some out) : Sm RX M out ∧ Bd RX TX out := by
  unfold fX10_put at h
  have hS : Sm RX M M := Sm.rf
  by_cases hc : a2 < (42 : Int32)
  · have h := (if_pos hc).symm.trans h
    have z := oX10_put_L19 fu   a0 M hB ra0 h
    exact ⟨hS.tr z.1, z.2⟩
  · have h := (if_neg hc).symm.trans h
    by_cases hc : (1514 : Int32) < a2
    · have h := (if_pos hc).symm.trans h
      have z := oX10_put_L19 fu   a0 M hB ra0 h
      exact ⟨hS.tr z.1, z.2⟩
    · have h := (if_neg hc).symm.trans h
      obtain ⟨v1, ev1, h⟩ := bd h
      by_cases hc : a2 ≤ v1
      · have h := (if_pos hc).symm.trans h
        obtain ⟨v2, ev2, h⟩ := bd h
        by_cases hc : 0 ≤ (irm v2 (32 : Int32))
        · have h := (if_pos hc).symm.trans h
          obtain ⟨v3, ev3, h⟩ := bd h
          have iv3 := gR_in hB (show 10 ≤ 11 from by decide) ev3
          obtain ⟨v4, ev4, h⟩ := bd h
          have iv4 := gB_in hB iv3 ev4
          by_cases hc : v4 = none
          · have h := (if_pos hc).symm.trans h
            obtain ⟨v5, M6, eM6, h⟩ := b2d h
            have w := mkO_own hB (by decide) eM6
            have hS := hS.tr w.1
            have rv5 := w.2.2
            have hB := w.2.1
            obtain ⟨M7, eM7, h⟩ := bd h
            have w := oX6_init fu v5  M6 hB rv5 eM7
            have hS := hS.tr w.1
            have hB := w.2
            obtain ⟨v8, ev8, h⟩ := bd h
            have iv8 := gR_in hB (show 10 ≤ 11 from by decide) ev8
            obtain ⟨M9, eM9, h⟩ := bd h
            have w := pB_own hB iv8 (inR_some rv5) eM9
            have hS := hS.tr w.1
            have hB := w.2
            have z := oX10_put_L73 fu   a0 a1 a2 (some v5) M9 hB ra0 ia1 (inR_some rv5) h
            exact ⟨hS.tr z.1, z.2⟩
          · have h := (if_neg hc).symm.trans h
            have z := oX10_put_L73 fu   a0 a1 a2 v4 M hB ra0 ia1 iv4 h
            exact ⟨hS.tr z.1, z.2⟩
        · have h := (if_neg hc).symm.trans h
          obtain rfl := Option.some.inj h
          exact ⟨hS, hB⟩
      · have h := (if_neg hc).symm.trans h
        have z := oX10_put_L19 fu   a0 M hB ra0 h
        exact ⟨hS.tr z.1, z.2⟩
theorem oX4_waiterFor_L37 (fu : Nat) {out : Int32 × Mm} (k2 : Nat → Int32 → Int32 → Mm → Option (Int32 × Mm)) (hk2 : ∀ (b0 : Nat) (b1 : Int32) (b2 : Int32)  (M : Mm), Bd RX TX M → RX b0 → k2 b0 b1 b2 M = some out → Sm RX M out.2 ∧ Bd RX TX out.2) (a0 : Nat) (a1 : Int32) (a2 : Int32)  (M : Mm) (hB : Bd RX TX M) (ra0 : RX a0) (h : fX4_waiterFor_L37 fu k2 a0 a1 a2 M = some out) : Sm RX M out.2 ∧ Bd RX TX out.2 := by
  unfold fX4_waiterFor_L37 at h
  have hS : Sm RX M M := Sm.rf
  have z := hk2 a0 a1 (a2 + (1 : Int32)) M hB ra0 h
  exact ⟨hS.tr z.1, z.2⟩
theorem oX4_waiterFor_L2 (fu : Nat) {out : Int32 × Mm}   : ∀ (n : Nat) (a0 : Nat) (a1 : Int32) (a2 : Int32)  (M : Mm), Bd RX TX M → RX a0 → fX4_waiterFor_L2 fu  n a0 a1 a2 M = some out → Sm RX M out.2 ∧ Bd RX TX out.2 := by
  intro n
  induction n with
  | zero =>
    intro a0 a1 a2 M hB ra0 h
    have h : (none : Option (Int32 × Mm)) = some out := h
    cases h
  | succ n ih =>
    intro a0 a1 a2 M hB ra0 h
    rw [fX4_waiterFor_L2] at h
    have hS : Sm RX M M := Sm.rf
    obtain ⟨v1, ev1, h⟩ := bd h
    by_cases hc : v1 ≤ a2
    · have h := (if_pos hc).symm.trans h
      obtain rfl := Option.some.inj h
      exact ⟨hS, hB⟩
    · have h := (if_neg hc).symm.trans h
      by_cases hc : (8 : Int32) ≤ a2
      · have h := (if_pos hc).symm.trans h
        obtain rfl := Option.some.inj h
        exact ⟨hS, hB⟩
      · have h := (if_neg hc).symm.trans h
        obtain ⟨v2, ev2, h⟩ := bd h
        have iv2 := gR_in hB (show 4 ≤ 11 from by decide) ev2
        obtain ⟨v3, ev3, h⟩ := bd h
        have iv3 := gB_in hB iv2 ev3
        by_cases hc : v3 = none
        · have h := (if_pos hc).symm.trans h
          have z := oX4_waiterFor_L37 fu (fun b0 b1 b2 M => fX4_waiterFor_L2 fu  n b0 b1 b2 M) ih a0 a1 a2 M hB ra0 h
          exact ⟨hS.tr z.1, z.2⟩
        · have h := (if_neg hc).symm.trans h
          obtain ⟨v4, ev4, h⟩ := bd h
          by_cases hc : v4 = a1
          · have h := (if_pos hc).symm.trans h
            obtain rfl := Option.some.inj h
            exact ⟨hS, hB⟩
          · have h := (if_neg hc).symm.trans h
            have z := oX4_waiterFor_L37 fu (fun b0 b1 b2 M => fX4_waiterFor_L2 fu  n b0 b1 b2 M) ih a0 a1 a2 M hB ra0 h
            exact ⟨hS.tr z.1, z.2⟩
theorem oX4_waiterFor (fu : Nat)   (a0 : Nat) (a1 : Int32)  (M : Mm) {out : Int32 × Mm} (hB : Bd RX TX M) (ra0 : RX a0) (h : fX4_waiterFor fu  a0 a1 M = some out) : Sm RX M out.2 ∧ Bd RX TX out.2 := by
  unfold fX4_waiterFor at h
  have hS : Sm RX M M := Sm.rf
  have z := oX4_waiterFor_L2 fu   fu a0 a1 (0 : Int32) M hB ra0 h
  exact ⟨hS.tr z.1, z.2⟩
theorem oX4_letWait_L107 (fu : Nat)   (a0 : Nat) (a2 : Int32) (a4 : Int32) (a5 : Option Nat)  (M : Mm) {out : Int32 × Mm} (hB : Bd RX TX M) (ra0 : RX a0) (ia5 : inR RX a5) (h : fX4_letWait_L107 fu  a0 a2 a4 a5 M = some out) : Sm RX M out.2 ∧ Bd RX TX out.2 := by
  unfold fX4_letWait_L107 at h
  have hS : Sm RX M M := Sm.rf
  obtain ⟨v1, ev1, h⟩ := bd h
  have iv1 := gR_in hB (show 4 ≤ 11 from by decide) ev1
  obtain ⟨v2, ev2, h⟩ := bd h
  have iv2 := gR_in hB (show 6 ≤ 11 from by decide) ev2
  obtain ⟨M3, eM3, h⟩ := bd h
  have w := cpB_own hB iv2 eM3
  have hS := hS.tr w.1
  have hB := w.2
  obtain ⟨M4, eM4, h⟩ := bd h
  have w := pF_own hB (show 6 ≤ 11 from by decide) eM4
  have hS := hS.tr w.1
  have hB := w.2
  obtain ⟨hz, rfl⟩ := rN_some h
  exact ⟨hS, hB⟩
theorem oX4_letWait_L78 (fu : Nat)   (a0 : Nat) (a1 : Int32) (a2 : Int32) (a4 : Int32) (a5 : Option Nat)  (M : Mm) {out : Int32 × Mm} (hB : Bd RX TX M) (ra0 : RX a0) (ia5 : inR RX a5) (h : fX4_letWait_L78 fu  a0 a1 a2 a4 a5 M = some out) : Sm RX M out.2 ∧ Bd RX TX out.2 := by
  unfold fX4_letWait_L78 at h
  have hS : Sm RX M M := Sm.rf
  by_cases hc : a4 = 0
  · have h := (if_pos hc).symm.trans h
    have z := oX4_letWait_L107 fu   a0 a2 a4 a5 M hB ra0 ia5 h
    exact ⟨hS.tr z.1, z.2⟩
  · have h := (if_neg hc).symm.trans h
    obtain ⟨M1, eM1, h⟩ := bd h
    have w := pF_own hB (show 6 ≤ 11 from by decide) eM1
    have hS := hS.tr w.1
    have hB := w.2
    obtain ⟨v2, ev2, h⟩ := bd h
    have iv2 := gR_in hB (show 4 ≤ 11 from by decide) ev2
    obtain ⟨v3, ev3, h⟩ := bd h
    obtain ⟨M4, eM4, h⟩ := bd h
    have w := pF_own hB (show 6 ≤ 11 from by decide) eM4
    have hS := hS.tr w.1
    have hB := w.2
    obtain ⟨M5, eM5, h⟩ := bd h
    have w := pF_own hB (show 6 ≤ 11 from by decide) eM5
    have hS := hS.tr w.1
    have hB := w.2
    have z := oX4_letWait_L107 fu   a0 a2 a4 a5 M5 hB ra0 ia5 h
    exact ⟨hS.tr z.1, z.2⟩
theorem oX4_letWait_L48 (fu : Nat)   (a0 : Nat) (a1 : Int32) (a2 : Int32) (a3 : Int32) (a4 : Int32)  (M : Mm) {out : Int32 × Mm} (hB : Bd RX TX M) (ra0 : RX a0) (h : fX4_letWait_L48 fu  a0 a1 a2 a3 a4 M = some out) : Sm RX M out.2 ∧ Bd RX TX out.2 := by
  unfold fX4_letWait_L48 at h
  have hS : Sm RX M M := Sm.rf
  obtain ⟨v1, ev1, h⟩ := bd h
  have iv1 := gR_in hB (show 4 ≤ 11 from by decide) ev1
  obtain ⟨v2, ev2, h⟩ := bd h
  have iv2 := gB_in hB iv1 ev2
  by_cases hc : v2 = none
  · have h := (if_pos hc).symm.trans h
    obtain ⟨v3, M4, eM4, h⟩ := b2d h
    have w := mkO_own hB (by decide) eM4
    have hS := hS.tr w.1
    have rv3 := w.2.2
    have hB := w.2.1
    obtain ⟨M5, eM5, h⟩ := bd h
    have w := oX6_init fu v3  M4 hB rv3 eM5
    have hS := hS.tr w.1
    have hB := w.2
    obtain ⟨v6, ev6, h⟩ := bd h
    have iv6 := gR_in hB (show 4 ≤ 11 from by decide) ev6
    obtain ⟨M7, eM7, h⟩ := bd h
    have w := pB_own hB iv6 (inR_some rv3) eM7
    have hS := hS.tr w.1
    have hB := w.2
    have z := oX4_letWait_L78 fu   a0 a1 a2 a4 (some v3) M7 hB ra0 (inR_some rv3) h
    exact ⟨hS.tr z.1, z.2⟩
  · have h := (if_neg hc).symm.trans h
    have z := oX4_letWait_L78 fu   a0 a1 a2 a4 v2 M hB ra0 iv2 h
    exact ⟨hS.tr z.1, z.2⟩
theorem oX4_letWait_L15 (fu : Nat)   (a0 : Nat) (a1 : Int32) (a2 : Int32) (a3 : Int32) (s0 : Int32) (M : Mm) {out : Int32 × Mm} (hB : Bd RX TX M) (ra0 : RX a0) (h : fX4_letWait_L15 fu  a0 a1 a2 a3 s0 M = some out) : Sm RX M out.2 ∧ Bd RX TX out.2 := by
  unfold fX4_letWait_L15 at h
  have hS : Sm RX M M := Sm.rf
  by_cases hc : s0 = 0
  · have h := (if_pos hc).symm.trans h
    have z := oX4_letWait_L48 fu   a0 a1 a2 a3 s0 M hB ra0 h
    exact ⟨hS.tr z.1, z.2⟩
  · have h := (if_neg hc).symm.trans h
    obtain ⟨v1, ev1, h⟩ := bd h
    by_cases hc : v1 < (8 : Int32)
    · have h := (if_pos hc).symm.trans h
      obtain ⟨v2, ev2, h⟩ := bd h
      obtain ⟨v3, ev3, h⟩ := bd h
      obtain ⟨M4, eM4, h⟩ := bd h
      have w := pF_own hB (show 4 ≤ 11 from by decide) eM4
      have hS := hS.tr w.1
      have hB := w.2
      have z := oX4_letWait_L48 fu   a0 a1 a2 v2 s0 M4 hB ra0 h
      exact ⟨hS.tr z.1, z.2⟩
    · have h := (if_neg hc).symm.trans h
      obtain ⟨hz, rfl⟩ := rN_some h
      exact ⟨hS, hB⟩
theorem oX4_letWait (fu : Nat)   (a0 : Nat) (a1 : Int32) (a2 : Int32)  (M : Mm) {out : Int32 × Mm} (hB : Bd RX TX M) (ra0 : RX a0) (h : fX4_letWait fu  a0 a1 a2 M = some out) : Sm RX M out.2 ∧ Bd RX TX out.2 := by
  unfold fX4_letWait at h
  have hS : Sm RX M M := Sm.rf
  obtain ⟨q1, eq1, h⟩ := bd h
  have rq1 := rc_in hB (show 4 ≤ 11 from by decide) eq1
  obtain ⟨v3, M2, eM2, h⟩ := b2d h
  have w := oX4_waiterFor fu q1 a1 M hB rq1 eM2
  have hS := hS.tr w.1
  have hB := w.2
  by_cases hc : 0 ≤ v3
  · have h := (if_pos hc).symm.trans h
    have z := oX4_letWait_L15 fu   a0 a1 a2 v3 (0 : Int32) M2 hB ra0 h
    exact ⟨hS.tr z.1, z.2⟩
  · have h := (if_neg hc).symm.trans h
    have z := oX4_letWait_L15 fu   a0 a1 a2 v3 (1 : Int32) M2 hB ra0 h
    exact ⟨hS.tr z.1, z.2⟩
theorem oX4_fillArp (fu : Nat)   (a0 : Nat) (a1 : Int32) (a2 : Int32) (a3 : Int32) (a4 : Int32)  (M : Mm) {out : Mm} (hB : Bd RX TX M) (ra0 : RX a0) (h : fX4_fillArp fu  a0 a1 a2 a3 a4 M = some out) : Sm RX M out ∧ Bd RX TX out := by
  unfold fX4_fillArp at h
  have hS : Sm RX M M := Sm.rf
  obtain ⟨v1, ev1, h⟩ := bd h
  have iv1 := gR_in hB (show 4 ≤ 11 from by decide) ev1
  obtain ⟨M2, eM2, h⟩ := bd h
  have w := oX11_putFour fu  v1 (14 : Int32) (67584 : Int32) M hB iv1 eM2
  have hS := hS.tr w.1
  have hB := w.2
  obtain ⟨v3, ev3, h⟩ := bd h
  have iv3 := gR_in hB (show 4 ≤ 11 from by decide) ev3
  obtain ⟨M4, eM4, h⟩ := bd h
  have w := oX11_putTwo fu  v3 (18 : Int32) (1540 : Int32) M2 hB iv3 eM4
  have hS := hS.tr w.1
  have hB := w.2
  obtain ⟨v5, ev5, h⟩ := bd h
  have iv5 := gR_in hB (show 4 ≤ 11 from by decide) ev5
  obtain ⟨M6, eM6, h⟩ := bd h
  have w := oX11_putTwo fu  v5 (20 : Int32) a1 M4 hB iv5 eM6
  have hS := hS.tr w.1
  have hB := w.2
  obtain ⟨v7, ev7, h⟩ := bd h
  have iv7 := gR_in hB (show 4 ≤ 11 from by decide) ev7
  obtain ⟨v8, ev8, h⟩ := bd h
  obtain ⟨M9, eM9, h⟩ := bd h
  have w := oX11_putTwo fu  v7 (22 : Int32) v8 M6 hB iv7 eM9
  have hS := hS.tr w.1
  have hB := w.2
  obtain ⟨v10, ev10, h⟩ := bd h
  have iv10 := gR_in hB (show 4 ≤ 11 from by decide) ev10
  obtain ⟨v11, ev11, h⟩ := bd h
  obtain ⟨M12, eM12, h⟩ := bd h
  have w := oX11_putFour fu  v10 (24 : Int32) v11 M9 hB iv10 eM12
  have hS := hS.tr w.1
  have hB := w.2
  obtain ⟨v13, ev13, h⟩ := bd h
  have iv13 := gR_in hB (show 4 ≤ 11 from by decide) ev13
  obtain ⟨v14, ev14, h⟩ := bd h
  obtain ⟨M15, eM15, h⟩ := bd h
  have w := oX11_putFour fu  v13 (28 : Int32) v14 M12 hB iv13 eM15
  have hS := hS.tr w.1
  have hB := w.2
  obtain ⟨v16, ev16, h⟩ := bd h
  have iv16 := gR_in hB (show 4 ≤ 11 from by decide) ev16
  obtain ⟨M17, eM17, h⟩ := bd h
  have w := oX11_putTwo fu  v16 (32 : Int32) a2 M15 hB iv16 eM17
  have hS := hS.tr w.1
  have hB := w.2
  obtain ⟨v18, ev18, h⟩ := bd h
  have iv18 := gR_in hB (show 4 ≤ 11 from by decide) ev18
  obtain ⟨M19, eM19, h⟩ := bd h
  have w := oX11_putFour fu  v18 (34 : Int32) a3 M17 hB iv18 eM19
  have hS := hS.tr w.1
  have hB := w.2
  obtain ⟨v20, ev20, h⟩ := bd h
  have iv20 := gR_in hB (show 4 ≤ 11 from by decide) ev20
  obtain ⟨M21, eM21, h⟩ := bd h
  have w := oX11_putFour fu  v20 (38 : Int32) a4 M19 hB iv20 eM21
  have hS := hS.tr w.1
  have hB := w.2
  obtain rfl := Option.some.inj h
  exact ⟨hS, hB⟩
theorem oX4_fillAsk (fu : Nat)   (a0 : Nat) (a1 : Int32)  (M : Mm) {out : Mm} (hB : Bd RX TX M) (ra0 : RX a0) (h : fX4_fillAsk fu  a0 a1 M = some out) : Sm RX M out ∧ Bd RX TX out := by
  unfold fX4_fillAsk at h
  have hS : Sm RX M M := Sm.rf
  obtain ⟨q1, eq1, h⟩ := bd h
  have rq1 := rc_in hB (show 4 ≤ 11 from by decide) eq1
  obtain ⟨M2, eM2, h⟩ := bd h
  have w := oX4_fillArp fu q1 (1 : Int32) (0 : Int32) (0 : Int32) a1 M hB rq1 eM2
  have hS := hS.tr w.1
  have hB := w.2
  obtain ⟨v3, ev3, h⟩ := bd h
  have iv3 := gR_in hB (show 4 ≤ 11 from by decide) ev3
  obtain ⟨q4, eq4, h⟩ := bd h
  have rq4 := rc_in hB (show 4 ≤ 11 from by decide) eq4
  obtain ⟨M5, eM5, h⟩ := bd h
  have w := oX4_fillLink fu q4 v3 (65535 : Int32) (-1 : Int32) (2054 : Int32) M2 hB rq4 iv3 eM5
  have hS := hS.tr w.1
  have hB := w.2
  obtain rfl := Option.some.inj h
  exact ⟨hS, hB⟩
theorem oX4_send_L41 (fu : Nat)   (a0 : Nat) (a3 : Int32) (s0 : Int32) (M : Mm) {out : Mm} (hB : Bd RX TX M) (ra0 : RX a0) (h : fX4_send_L41 fu  a0 a3 s0 M = some out) : Sm RX M out ∧ Bd RX TX out := by
  unfold fX4_send_L41 at h
  have hS : Sm RX M M := Sm.rf
  obtain ⟨q1, eq1, h⟩ := bd h
  have rq1 := rc_in hB (show 4 ≤ 11 from by decide) eq1
  obtain ⟨v3, M2, eM2, h⟩ := b2d h
  have w := oX4_counting fu q1 s0 M hB rq1 eM2
  have hS := hS.tr w.1
  have hB := w.2
  by_cases hc : v3 < 0
  · have h := (if_pos hc).symm.trans h
    obtain ⟨q4, eq4, h⟩ := bd h
    have rq4 := rc_in hB (show 4 ≤ 11 from by decide) eq4
    obtain ⟨v6, M5, eM5, h⟩ := b2d h
    have w := oX4_letWait fu q4 s0 ((34 : Int32) + a3) M2 hB rq4 eM5
    have hS := hS.tr w.1
    have hB := w.2
    by_cases hc : v6 = 0
    · have h := (if_pos hc).symm.trans h
      obtain rfl := Option.some.inj h
      exact ⟨hS, hB⟩
    · have h := (if_neg hc).symm.trans h
      obtain ⟨q7, eq7, h⟩ := bd h
      have rq7 := rc_in hB (show 4 ≤ 11 from by decide) eq7
      obtain ⟨M8, eM8, h⟩ := bd h
      have w := oX4_fillAsk fu q7 s0 M5 hB rq7 eM8
      have hS := hS.tr w.1
      have hB := w.2
      obtain ⟨v9, ev9, h⟩ := bd h
      have iv9 := gR_in hB (show 4 ≤ 11 from by decide) ev9
      obtain ⟨v10, ev10, h⟩ := bd h
      have iv10 := gR_in hB (show 4 ≤ 11 from by decide) ev10
      obtain ⟨q11, eq11, h⟩ := bd h
      have rq11 := rc_in hB (show 10 ≤ 11 from by decide) eq11
      obtain ⟨M12, eM12, h⟩ := bd h
      have w := oX10_put fu q11 v10 (42 : Int32) M8 hB rq11 iv10 eM12
      have hS := hS.tr w.1
      have hB := w.2
      obtain rfl := Option.some.inj h
      exact ⟨hS, hB⟩
  · have h := (if_neg hc).symm.trans h
    obtain ⟨v13, ev13, h⟩ := bd h
    have iv13 := gR_in hB (show 4 ≤ 11 from by decide) ev13
    obtain ⟨v14, ev14, h⟩ := bd h
    have iv14 := gR_in hB (show 4 ≤ 11 from by decide) ev14
    obtain ⟨v15, ev15, h⟩ := bd h
    obtain ⟨v16, ev16, h⟩ := bd h
    have iv16 := gR_in hB (show 4 ≤ 11 from by decide) ev16
    obtain ⟨v17, ev17, h⟩ := bd h
    obtain ⟨q18, eq18, h⟩ := bd h
    have rq18 := rc_in hB (show 4 ≤ 11 from by decide) eq18
    obtain ⟨M19, eM19, h⟩ := bd h
    have w := oX4_fillLink fu q18 v13 v15 v17 (2048 : Int32) M2 hB rq18 iv13 eM19
    have hS := hS.tr w.1
    have hB := w.2
    obtain ⟨v20, ev20, h⟩ := bd h
    have iv20 := gR_in hB (show 4 ≤ 11 from by decide) ev20
    obtain ⟨v21, ev21, h⟩ := bd h
    have iv21 := gR_in hB (show 4 ≤ 11 from by decide) ev21
    obtain ⟨q22, eq22, h⟩ := bd h
    have rq22 := rc_in hB (show 10 ≤ 11 from by decide) eq22
    obtain ⟨M23, eM23, h⟩ := bd h
    have w := oX10_put fu q22 v21 ((34 : Int32) + a3) M19 hB rq22 iv21 eM23
    have hS := hS.tr w.1
    have hB := w.2
    obtain rfl := Option.some.inj h
    exact ⟨hS, hB⟩
theorem oX4_send (fu : Nat)   (a0 : Nat) (a1 : Int32) (a2 : Int32) (a3 : Int32)  (M : Mm) {out : Mm} (hB : Bd RX TX M) (ra0 : RX a0) (h : fX4_send fu  a0 a1 a2 a3 M = some out) : Sm RX M out ∧ Bd RX TX out := by
  unfold fX4_send at h
  have hS : Sm RX M M := Sm.rf
  by_cases hc : a3 < 0
  · have h := (if_pos hc).symm.trans h
    obtain rfl := Option.some.inj h
    exact ⟨hS, hB⟩
  · have h := (if_neg hc).symm.trans h
    by_cases hc : a3 ≤ (1480 : Int32)
    · have h := (if_pos hc).symm.trans h
      obtain ⟨q1, eq1, h⟩ := bd h
      have rq1 := rc_in hB (show 4 ≤ 11 from by decide) eq1
      obtain ⟨M2, eM2, h⟩ := bd h
      have w := oX4_fillHeader fu q1 a1 a2 a3 M hB rq1 eM2
      have hS := hS.tr w.1
      have hB := w.2
      obtain ⟨v3, ev3, h⟩ := bd h
      obtain ⟨v4, ev4, h⟩ := bd h
      by_cases hc : ((a1 ^^^ v3) &&& v4) = 0
      · have h := (if_pos hc).symm.trans h
        have z := oX4_send_L41 fu   a0 a3 a1 M2 hB ra0 h
        exact ⟨hS.tr z.1, z.2⟩
      · have h := (if_neg hc).symm.trans h
        obtain ⟨v5, ev5, h⟩ := bd h
        have z := oX4_send_L41 fu   a0 a3 v5 M2 hB ra0 h
        exact ⟨hS.tr z.1, z.2⟩
    · have h := (if_neg hc).symm.trans h
      obtain rfl := Option.some.inj h
      exact ⟨hS, hB⟩
theorem oX3_echo (fu : Nat)   (a0 : Nat)  (M : Mm) {out : Mm} (hB : Bd RX TX M) (ra0 : RX a0) (h : fX3_echo fu  a0 M = some out) : Sm RX M out ∧ Bd RX TX out := by
  unfold fX3_echo at h
  have hS : Sm RX M M := Sm.rf
  obtain ⟨v1, ev1, h⟩ := bd h
  by_cases hc : v1 < (8 : Int32)
  · have h := (if_pos hc).symm.trans h
    obtain rfl := Option.some.inj h
    exact ⟨hS, hB⟩
  · have h := (if_neg hc).symm.trans h
    obtain ⟨v2, ev2, h⟩ := bd h
    by_cases hc : (1480 : Int32) < v2
    · have h := (if_pos hc).symm.trans h
      obtain rfl := Option.some.inj h
      exact ⟨hS, hB⟩
    · have h := (if_neg hc).symm.trans h
      obtain ⟨v3, ev3, h⟩ := bd h
      by_cases hc : v3 < 0
      · have h := (if_pos hc).symm.trans h
        obtain rfl := Option.some.inj h
        exact ⟨hS, hB⟩
      · have h := (if_neg hc).symm.trans h
        obtain ⟨v4, ev4, h⟩ := bd h
        obtain ⟨v5, ev5, h⟩ := bd h
        obtain ⟨v6, ev6, h⟩ := bd h
        have iv6 := gR_in hB (show 3 ≤ 11 from by decide) ev6
        obtain ⟨v7, ev7, h⟩ := bd h
        by_cases hc : (v4 + v5) ≤ v7
        · have h := (if_pos hc).symm.trans h
          obtain ⟨v8, ev8, h⟩ := bd h
          have iv8 := gR_in hB (show 3 ≤ 11 from by decide) ev8
          obtain ⟨v9, ev9, h⟩ := bd h
          obtain ⟨v11, M10, eM10, h⟩ := b2d h
          have w := oX11_two fu  v8 v9 M hB iv8 eM10
          have hS := hS.tr w.1
          have hB := w.2
          by_cases hc : v11 = (2048 : Int32)
          · have h := (if_pos hc).symm.trans h
            obtain ⟨v12, ev12, h⟩ := bd h
            have iv12 := gR_in hB (show 3 ≤ 11 from by decide) ev12
            obtain ⟨v13, ev13, h⟩ := bd h
            obtain ⟨v14, ev14, h⟩ := bd h
            obtain ⟨v16, M15, eM15, h⟩ := b2d h
            have w := oX11_added fu  v12 v13 v14 (0 : Int32) M10 hB iv12 eM15
            have hS := hS.tr w.1
            have hB := w.2
            by_cases hc : v16 = (65535 : Int32)
            · have h := (if_pos hc).symm.trans h
              obtain ⟨v17, ev17, h⟩ := bd h
              have iv17 := gR_in hB (show 3 ≤ 11 from by decide) ev17
              obtain ⟨v18, ev18, h⟩ := bd h
              obtain ⟨v19, ev19, h⟩ := bd h
              have iv19 := gR_in hB (show 3 ≤ 11 from by decide) ev19
              obtain ⟨v20, ev20, h⟩ := bd h
              have iv20 := gR_in hB (show 4 ≤ 11 from by decide) ev20
              obtain ⟨v21, ev21, h⟩ := bd h
              obtain ⟨M22, eM22, h⟩ := bd h
              have w := cpB_own hB iv20 eM22
              have hS := hS.tr w.1
              have hB := w.2
              obtain ⟨v23, ev23, h⟩ := bd h
              have iv23 := gR_in hB (show 3 ≤ 11 from by decide) ev23
              obtain ⟨v24, ev24, h⟩ := bd h
              have iv24 := gR_in hB (show 4 ≤ 11 from by decide) ev24
              obtain ⟨M25, eM25, h⟩ := bd h
              have w := oX11_putFour fu  v24 (34 : Int32) (0 : Int32) M22 hB iv24 eM25
              have hS := hS.tr w.1
              have hB := w.2
              obtain ⟨v26, ev26, h⟩ := bd h
              have iv26 := gR_in hB (show 3 ≤ 11 from by decide) ev26
              obtain ⟨v27, ev27, h⟩ := bd h
              have iv27 := gR_in hB (show 4 ≤ 11 from by decide) ev27
              obtain ⟨v28, ev28, h⟩ := bd h
              have iv28 := gR_in hB (show 3 ≤ 11 from by decide) ev28
              obtain ⟨v29, ev29, h⟩ := bd h
              have iv29 := gR_in hB (show 4 ≤ 11 from by decide) ev29
              obtain ⟨v30, ev30, h⟩ := bd h
              obtain ⟨v32, M31, eM31, h⟩ := b2d h
              have w := oX11_added fu  v29 (34 : Int32) v30 (0 : Int32) M25 hB iv29 eM31
              have hS := hS.tr w.1
              have hB := w.2
              obtain ⟨M33, eM33, h⟩ := bd h
              have w := oX11_putTwo fu  v27 (36 : Int32) (v32 ^^^ (-1 : Int32)) M31 hB iv27 eM33
              have hS := hS.tr w.1
              have hB := w.2
              obtain ⟨v34, ev34, h⟩ := bd h
              have iv34 := gR_in hB (show 3 ≤ 11 from by decide) ev34
              obtain ⟨v35, ev35, h⟩ := bd h
              obtain ⟨v36, ev36, h⟩ := bd h
              obtain ⟨q37, eq37, h⟩ := bd h
              have rq37 := rc_in hB (show 4 ≤ 11 from by decide) eq37
              obtain ⟨M38, eM38, h⟩ := bd h
              have w := oX4_send fu q37 v35 (1 : Int32) v36 M33 hB rq37 eM38
              have hS := hS.tr w.1
              have hB := w.2
              obtain rfl := Option.some.inj h
              exact ⟨hS, hB⟩
            · have h := (if_neg hc).symm.trans h
              obtain rfl := Option.some.inj h
              exact ⟨hS, hB⟩
          · have h := (if_neg hc).symm.trans h
            obtain rfl := Option.some.inj h
            exact ⟨hS, hB⟩
        · have h := (if_neg hc).symm.trans h
          obtain rfl := Option.some.inj h
          exact ⟨hS, hB⟩
theorem oX11_pseudoSum (fu : Nat)   (a0 : Int32) (a1 : Int32) (a2 : Int32)  (M : Mm) {out : Int32 × Mm} (hB : Bd RX TX M)  (h : fX11_pseudoSum fu  a0 a1 a2 M = some out) : Sm RX M out.2 ∧ Bd RX TX out.2 := by
  unfold fX11_pseudoSum at h
  have hS : Sm RX M M := Sm.rf
  obtain rfl := Option.some.inj h
  exact ⟨hS, hB⟩
theorem oX3_readSegment (fu : Nat)   (a0 : Nat)  (M : Mm) {out : Int32 × Mm} (hB : Bd RX TX M) (ra0 : RX a0) (h : fX3_readSegment fu  a0 M = some out) : Sm RX M out.2 ∧ Bd RX TX out.2 := by
  unfold fX3_readSegment at h
  have hS : Sm RX M M := Sm.rf
  obtain ⟨v1, ev1, h⟩ := bd h
  have iv1 := gR_in hB (show 3 ≤ 11 from by decide) ev1
  obtain ⟨v2, ev2, h⟩ := bd h
  obtain ⟨v4, M3, eM3, h⟩ := b2d h
  have w := oX11_one fu  v1 (v2 + (12 : Int32)) M hB iv1 eM3
  have hS := hS.tr w.1
  have hB := w.2
  obtain ⟨v5, ev5, h⟩ := bd h
  obtain ⟨v6, ev6, h⟩ := bd h
  by_cases hc : v6 < (20 : Int32)
  · have h := (if_pos hc).symm.trans h
    obtain ⟨hz, rfl⟩ := rN_some h
    exact ⟨hS, hB⟩
  · have h := (if_neg hc).symm.trans h
    by_cases hc : v5 < (20 : Int32)
    · have h := (if_pos hc).symm.trans h
      obtain ⟨hz, rfl⟩ := rN_some h
      exact ⟨hS, hB⟩
    · have h := (if_neg hc).symm.trans h
      obtain ⟨v7, ev7, h⟩ := bd h
      by_cases hc : v5 ≤ v7
      · have h := (if_pos hc).symm.trans h
        obtain ⟨v8, ev8, h⟩ := bd h
        have iv8 := gR_in hB (show 3 ≤ 11 from by decide) ev8
        obtain ⟨v9, ev9, h⟩ := bd h
        obtain ⟨v10, ev10, h⟩ := bd h
        obtain ⟨v11, ev11, h⟩ := bd h
        obtain ⟨v12, ev12, h⟩ := bd h
        have iv12 := gR_in hB (show 3 ≤ 11 from by decide) ev12
        obtain ⟨v13, ev13, h⟩ := bd h
        obtain ⟨v14, ev14, h⟩ := bd h
        obtain ⟨v16, M15, eM15, h⟩ := b2d h
        have w := oX11_pseudoSum fu  v11 v13 v14 M3 hB  eM15
        have hS := hS.tr w.1
        have hB := w.2
        obtain ⟨v18, M17, eM17, h⟩ := b2d h
        have w := oX11_added fu  v8 v9 v10 v16 M15 hB iv8 eM17
        have hS := hS.tr w.1
        have hB := w.2
        by_cases hc : v18 = (65535 : Int32)
        · have h := (if_pos hc).symm.trans h
          obtain ⟨v19, ev19, h⟩ := bd h
          have iv19 := gR_in hB (show 3 ≤ 11 from by decide) ev19
          obtain ⟨v20, ev20, h⟩ := bd h
          obtain ⟨v22, M21, eM21, h⟩ := b2d h
          have w := oX11_two fu  v19 v20 M17 hB iv19 eM21
          have hS := hS.tr w.1
          have hB := w.2
          obtain ⟨M23, eM23, h⟩ := bd h
          have w := pF_own hB (show 3 ≤ 11 from by decide) eM23
          have hS := hS.tr w.1
          have hB := w.2
          obtain ⟨v24, ev24, h⟩ := bd h
          have iv24 := gR_in hB (show 3 ≤ 11 from by decide) ev24
          obtain ⟨v25, ev25, h⟩ := bd h
          obtain ⟨v27, M26, eM26, h⟩ := b2d h
          have w := oX11_two fu  v24 (v25 + (2 : Int32)) M23 hB iv24 eM26
          have hS := hS.tr w.1
          have hB := w.2
          obtain ⟨M28, eM28, h⟩ := bd h
          have w := pF_own hB (show 3 ≤ 11 from by decide) eM28
          have hS := hS.tr w.1
          have hB := w.2
          obtain ⟨v29, ev29, h⟩ := bd h
          have iv29 := gR_in hB (show 3 ≤ 11 from by decide) ev29
          obtain ⟨v30, ev30, h⟩ := bd h
          obtain ⟨v32, M31, eM31, h⟩ := b2d h
          have w := oX11_four fu  v29 (v30 + (4 : Int32)) M28 hB iv29 eM31
          have hS := hS.tr w.1
          have hB := w.2
          obtain ⟨M33, eM33, h⟩ := bd h
          have w := pF_own hB (show 3 ≤ 11 from by decide) eM33
          have hS := hS.tr w.1
          have hB := w.2
          obtain ⟨v34, ev34, h⟩ := bd h
          have iv34 := gR_in hB (show 3 ≤ 11 from by decide) ev34
          obtain ⟨v35, ev35, h⟩ := bd h
          obtain ⟨v37, M36, eM36, h⟩ := b2d h
          have w := oX11_four fu  v34 (v35 + (8 : Int32)) M33 hB iv34 eM36
          have hS := hS.tr w.1
          have hB := w.2
          obtain ⟨M38, eM38, h⟩ := bd h
          have w := pF_own hB (show 3 ≤ 11 from by decide) eM38
          have hS := hS.tr w.1
          have hB := w.2
          obtain ⟨v39, ev39, h⟩ := bd h
          have iv39 := gR_in hB (show 3 ≤ 11 from by decide) ev39
          obtain ⟨v40, ev40, h⟩ := bd h
          obtain ⟨v42, M41, eM41, h⟩ := b2d h
          have w := oX11_one fu  v39 (v40 + (13 : Int32)) M38 hB iv39 eM41
          have hS := hS.tr w.1
          have hB := w.2
          obtain ⟨M43, eM43, h⟩ := bd h
          have w := pF_own hB (show 3 ≤ 11 from by decide) eM43
          have hS := hS.tr w.1
          have hB := w.2
          obtain ⟨v44, ev44, h⟩ := bd h
          have iv44 := gR_in hB (show 3 ≤ 11 from by decide) ev44
          obtain ⟨v45, ev45, h⟩ := bd h
          obtain ⟨v47, M46, eM46, h⟩ := b2d h
          have w := oX11_two fu  v44 (v45 + (14 : Int32)) M43 hB iv44 eM46
          have hS := hS.tr w.1
          have hB := w.2
          obtain ⟨M48, eM48, h⟩ := bd h
          have w := pF_own hB (show 3 ≤ 11 from by decide) eM48
          have hS := hS.tr w.1
          have hB := w.2
          obtain ⟨v49, ev49, h⟩ := bd h
          obtain ⟨M50, eM50, h⟩ := bd h
          have w := pF_own hB (show 3 ≤ 11 from by decide) eM50
          have hS := hS.tr w.1
          have hB := w.2
          obtain ⟨v51, ev51, h⟩ := bd h
          obtain ⟨M52, eM52, h⟩ := bd h
          have w := pF_own hB (show 3 ≤ 11 from by decide) eM52
          have hS := hS.tr w.1
          have hB := w.2
          obtain ⟨hz, rfl⟩ := rN_some h
          exact ⟨hS, hB⟩
        · have h := (if_neg hc).symm.trans h
          obtain ⟨hz, rfl⟩ := rN_some h
          exact ⟨hS, hB⟩
      · have h := (if_neg hc).symm.trans h
        obtain ⟨hz, rfl⟩ := rN_some h
        exact ⟨hS, hB⟩
theorem oX4_init (fu : Nat)   (a0 : Nat) (a1 : Option Nat)  (M : Mm) {out : Mm} (hB : Bd RX TX M) (ra0 : RX a0) (ia1 : inR RX a1) (h : fX4_init fu  a0 a1 M = some out) : Sm RX M out ∧ Bd RX TX out := by
  unfold fX4_init at h
  have hS : Sm RX M M := Sm.rf
  obtain ⟨M1, eM1, h⟩ := bd h
  have w := pG_own hB (show 4 ≤ 11 from by decide) ia1 eM1
  have hS := hS.tr w.1
  have hB := w.2
  obtain ⟨v2, M3, eM3, h⟩ := b2d h
  have w := mkA_own hB (by decide) eM3
  have hS := hS.tr w.1
  have rv2 := w.2.2
  have hB := w.2.1
  obtain ⟨M4, eM4, h⟩ := bd h
  have w := pG_own hB (show 4 ≤ 11 from by decide) (inR_some rv2) eM4
  have hS := hS.tr w.1
  have hB := w.2
  obtain ⟨v5, M6, eM6, h⟩ := b2d h
  have w := mkA_own hB (by decide) eM6
  have hS := hS.tr w.1
  have rv5 := w.2.2
  have hB := w.2.1
  obtain ⟨M7, eM7, h⟩ := bd h
  have w := pG_own hB (show 4 ≤ 11 from by decide) (inR_some rv5) eM7
  have hS := hS.tr w.1
  have hB := w.2
  obtain ⟨v8, M9, eM9, h⟩ := b2d h
  have w := mkA_own hB (by decide) eM9
  have hS := hS.tr w.1
  have rv8 := w.2.2
  have hB := w.2.1
  obtain ⟨M10, eM10, h⟩ := bd h
  have w := pG_own hB (show 4 ≤ 11 from by decide) (inR_some rv8) eM10
  have hS := hS.tr w.1
  have hB := w.2
  obtain ⟨v11, M12, eM12, h⟩ := b2d h
  have w := mkA_own hB (by decide) eM12
  have hS := hS.tr w.1
  have rv11 := w.2.2
  have hB := w.2.1
  obtain ⟨M13, eM13, h⟩ := bd h
  have w := pG_own hB (show 4 ≤ 11 from by decide) (inR_some rv11) eM13
  have hS := hS.tr w.1
  have hB := w.2
  obtain ⟨v14, M15, eM15, h⟩ := b2d h
  have w := mkA_own hB (by decide) eM15
  have hS := hS.tr w.1
  have rv14 := w.2.2
  have hB := w.2.1
  obtain ⟨M16, eM16, h⟩ := bd h
  have w := pG_own hB (show 4 ≤ 11 from by decide) (inR_some rv14) eM16
  have hS := hS.tr w.1
  have hB := w.2
  obtain ⟨v17, M18, eM18, h⟩ := b2d h
  have w := mkA_own hB (by decide) eM18
  have hS := hS.tr w.1
  have rv17 := w.2.2
  have hB := w.2.1
  obtain ⟨M19, eM19, h⟩ := bd h
  have w := pG_own hB (show 4 ≤ 11 from by decide) (inR_some rv17) eM19
  have hS := hS.tr w.1
  have hB := w.2
  obtain rfl := Option.some.inj h
  exact ⟨hS, hB⟩
theorem oX4_restart (fu : Nat)   (a0 : Nat) (a1 : Int32) (a2 : Int32) (a3 : Int32) (a4 : Int32) (a5 : Int32)  (M : Mm) {out : Mm} (hB : Bd RX TX M) (ra0 : RX a0) (h : fX4_restart fu  a0 a1 a2 a3 a4 a5 M = some out) : Sm RX M out ∧ Bd RX TX out := by
  unfold fX4_restart at h
  have hS : Sm RX M M := Sm.rf
  obtain ⟨M1, eM1, h⟩ := bd h
  have w := pF_own hB (show 4 ≤ 11 from by decide) eM1
  have hS := hS.tr w.1
  have hB := w.2
  obtain ⟨M2, eM2, h⟩ := bd h
  have w := pF_own hB (show 4 ≤ 11 from by decide) eM2
  have hS := hS.tr w.1
  have hB := w.2
  obtain ⟨M3, eM3, h⟩ := bd h
  have w := pF_own hB (show 4 ≤ 11 from by decide) eM3
  have hS := hS.tr w.1
  have hB := w.2
  obtain ⟨M4, eM4, h⟩ := bd h
  have w := pF_own hB (show 4 ≤ 11 from by decide) eM4
  have hS := hS.tr w.1
  have hB := w.2
  obtain ⟨M5, eM5, h⟩ := bd h
  have w := pF_own hB (show 4 ≤ 11 from by decide) eM5
  have hS := hS.tr w.1
  have hB := w.2
  obtain ⟨M6, eM6, h⟩ := bd h
  have w := pF_own hB (show 4 ≤ 11 from by decide) eM6
  have hS := hS.tr w.1
  have hB := w.2
  obtain ⟨M7, eM7, h⟩ := bd h
  have w := pF_own hB (show 4 ≤ 11 from by decide) eM7
  have hS := hS.tr w.1
  have hB := w.2
  obtain ⟨M8, eM8, h⟩ := bd h
  have w := pF_own hB (show 4 ≤ 11 from by decide) eM8
  have hS := hS.tr w.1
  have hB := w.2
  obtain rfl := Option.some.inj h
  exact ⟨hS, hB⟩
theorem oX4_newEntry_L48 (fu : Nat) {out : Int32 × Mm} (k25 : Nat → Int32 → Int32 → Mm → Option (Int32 × Mm)) (hk25 : ∀ (b0 : Nat) (b1 : Int32) (b2 : Int32)  (M : Mm), Bd RX TX M → RX b0 → k25 b0 b1 b2 M = some out → Sm RX M out.2 ∧ Bd RX TX out.2) (a0 : Nat) (a1 : Int32) (a2 : Int32)  (M : Mm) (hB : Bd RX TX M) (ra0 : RX a0) (h : fX4_newEntry_L48 fu k25 a0 a1 a2 M = some out) : Sm RX M out.2 ∧ Bd RX TX out.2 := by
  unfold fX4_newEntry_L48 at h
  have hS : Sm RX M M := Sm.rf
  have z := hk25 a0 a1 (a2 + (1 : Int32)) M hB ra0 h
  exact ⟨hS.tr z.1, z.2⟩
theorem oX4_newEntry_L25 (fu : Nat) {out : Int32 × Mm}   : ∀ (n : Nat) (a0 : Nat) (a1 : Int32) (a2 : Int32)  (M : Mm), Bd RX TX M → RX a0 → fX4_newEntry_L25 fu  n a0 a1 a2 M = some out → Sm RX M out.2 ∧ Bd RX TX out.2 := by
  intro n
  induction n with
  | zero =>
    intro a0 a1 a2 M hB ra0 h
    have h : (none : Option (Int32 × Mm)) = some out := h
    cases h
  | succ n ih =>
    intro a0 a1 a2 M hB ra0 h
    rw [fX4_newEntry_L25] at h
    have hS : Sm RX M M := Sm.rf
    by_cases hc : (16 : Int32) ≤ a2
    · have h := (if_pos hc).symm.trans h
      obtain rfl := Option.some.inj h
      exact ⟨hS, hB⟩
    · have h := (if_neg hc).symm.trans h
      obtain ⟨v1, ev1, h⟩ := bd h
      have iv1 := gR_in hB (show 4 ≤ 11 from by decide) ev1
      obtain ⟨v2, ev2, h⟩ := bd h
      obtain ⟨v3, ev3, h⟩ := bd h
      have iv3 := gR_in hB (show 4 ≤ 11 from by decide) ev3
      obtain ⟨v4, ev4, h⟩ := bd h
      by_cases hc : v4 ≤ v2
      · have h := (if_pos hc).symm.trans h
        have z := oX4_newEntry_L48 fu (fun b0 b1 b2 M => fX4_newEntry_L25 fu  n b0 b1 b2 M) ih a0 a1 a2 M hB ra0 h
        exact ⟨hS.tr z.1, z.2⟩
      · have h := (if_neg hc).symm.trans h
        have z := oX4_newEntry_L48 fu (fun b0 b1 b2 M => fX4_newEntry_L25 fu  n b0 b1 b2 M) ih a0 a2 a2 M hB ra0 h
        exact ⟨hS.tr z.1, z.2⟩
theorem oX4_newEntry (fu : Nat)   (a0 : Nat)  (M : Mm) {out : Int32 × Mm} (hB : Bd RX TX M) (ra0 : RX a0) (h : fX4_newEntry fu  a0 M = some out) : Sm RX M out.2 ∧ Bd RX TX out.2 := by
  unfold fX4_newEntry at h
  have hS : Sm RX M M := Sm.rf
  obtain ⟨v1, ev1, h⟩ := bd h
  by_cases hc : (16 : Int32) ≤ v1
  · have h := (if_pos hc).symm.trans h
    have z := oX4_newEntry_L25 fu   fu a0 (0 : Int32) (1 : Int32) M hB ra0 h
    exact ⟨hS.tr z.1, z.2⟩
  · have h := (if_neg hc).symm.trans h
    obtain ⟨v2, ev2, h⟩ := bd h
    obtain ⟨M3, eM3, h⟩ := bd h
    have w := pF_own hB (show 4 ≤ 11 from by decide) eM3
    have hS := hS.tr w.1
    have hB := w.2
    obtain rfl := Option.some.inj h
    exact ⟨hS, hB⟩
theorem oX4_dropWaiter_L60 (fu : Nat)   (a0 : Nat) (a2 : Option Nat)  (M : Mm) {out : Mm} (hB : Bd RX TX M) (ra0 : RX a0) (ia2 : inR RX a2) (h : fX4_dropWaiter_L60 fu  a0 a2 M = some out) : Sm RX M out ∧ Bd RX TX out := by
  unfold fX4_dropWaiter_L60 at h
  have hS : Sm RX M M := Sm.rf
  obtain ⟨v1, ev1, h⟩ := bd h
  obtain ⟨M2, eM2, h⟩ := bd h
  have w := pF_own hB (show 4 ≤ 11 from by decide) eM2
  have hS := hS.tr w.1
  have hB := w.2
  obtain ⟨v3, ev3, h⟩ := bd h
  have iv3 := gR_in hB (show 4 ≤ 11 from by decide) ev3
  obtain ⟨v4, ev4, h⟩ := bd h
  obtain ⟨M5, eM5, h⟩ := bd h
  have w := pB_own hB iv3 ia2 eM5
  have hS := hS.tr w.1
  have hB := w.2
  obtain rfl := Option.some.inj h
  exact ⟨hS, hB⟩
theorem oX4_dropWaiter_L22 (fu : Nat) {out : Mm}   : ∀ (n : Nat) (a0 : Nat) (a2 : Option Nat) (a3 : Int32)  (M : Mm), Bd RX TX M → RX a0 → inR RX a2 → fX4_dropWaiter_L22 fu  n a0 a2 a3 M = some out → Sm RX M out ∧ Bd RX TX out := by
  intro n
  induction n with
  | zero =>
    intro a0 a2 a3 M hB ra0 ia2 h
    have h : (none : Option (Mm)) = some out := h
    cases h
  | succ n ih =>
    intro a0 a2 a3 M hB ra0 ia2 h
    rw [fX4_dropWaiter_L22] at h
    have hS : Sm RX M M := Sm.rf
    obtain ⟨v1, ev1, h⟩ := bd h
    by_cases hc : v1 ≤ (a3 + (1 : Int32))
    · have h := (if_pos hc).symm.trans h
      have z := oX4_dropWaiter_L60 fu   a0 a2 M hB ra0 ia2 h
      exact ⟨hS.tr z.1, z.2⟩
    · have h := (if_neg hc).symm.trans h
      by_cases hc : (8 : Int32) ≤ (a3 + (1 : Int32))
      · have h := (if_pos hc).symm.trans h
        have z := oX4_dropWaiter_L60 fu   a0 a2 M hB ra0 ia2 h
        exact ⟨hS.tr z.1, z.2⟩
      · have h := (if_neg hc).symm.trans h
        obtain ⟨v2, ev2, h⟩ := bd h
        have iv2 := gR_in hB (show 4 ≤ 11 from by decide) ev2
        obtain ⟨v3, ev3, h⟩ := bd h
        have iv3 := gR_in hB (show 4 ≤ 11 from by decide) ev3
        obtain ⟨v4, ev4, h⟩ := bd h
        have iv4 := gB_in hB iv3 ev4
        obtain ⟨M5, eM5, h⟩ := bd h
        have w := pB_own hB iv2 iv4 eM5
        have hS := hS.tr w.1
        have hB := w.2
        have z := ih a0 a2 (a3 + (1 : Int32)) M5 hB ra0 ia2 h
        exact ⟨hS.tr z.1, z.2⟩
theorem oX4_dropWaiter (fu : Nat)   (a0 : Nat) (a1 : Int32)  (M : Mm) {out : Mm} (hB : Bd RX TX M) (ra0 : RX a0) (h : fX4_dropWaiter fu  a0 a1 M = some out) : Sm RX M out ∧ Bd RX TX out := by
  unfold fX4_dropWaiter at h
  have hS : Sm RX M M := Sm.rf
  by_cases hc : a1 < 0
  · have h := (if_pos hc).symm.trans h
    obtain rfl := Option.some.inj h
    exact ⟨hS, hB⟩
  · have h := (if_neg hc).symm.trans h
    obtain ⟨v1, ev1, h⟩ := bd h
    by_cases hc : a1 < v1
    · have h := (if_pos hc).symm.trans h
      obtain ⟨v2, ev2, h⟩ := bd h
      have iv2 := gR_in hB (show 4 ≤ 11 from by decide) ev2
      obtain ⟨v3, ev3, h⟩ := bd h
      have iv3 := gB_in hB iv2 ev3
      have z := oX4_dropWaiter_L22 fu   fu a0 v3 a1 M hB ra0 iv3 h
      exact ⟨hS.tr z.1, z.2⟩
    · have h := (if_neg hc).symm.trans h
      obtain rfl := Option.some.inj h
      exact ⟨hS, hB⟩
theorem oX4_release (fu : Nat)   (a0 : Nat) (a1 : Int32) (a2 : Int32)  (M : Mm) {out : Mm} (hB : Bd RX TX M) (ra0 : RX a0) (h : fX4_release fu  a0 a1 a2 M = some out) : Sm RX M out ∧ Bd RX TX out := by
  unfold fX4_release at h
  have hS : Sm RX M M := Sm.rf
  obtain ⟨q1, eq1, h⟩ := bd h
  have rq1 := rc_in hB (show 4 ≤ 11 from by decide) eq1
  obtain ⟨v3, M2, eM2, h⟩ := b2d h
  have w := oX4_waiterFor fu q1 a1 M hB rq1 eM2
  have hS := hS.tr w.1
  have hB := w.2
  by_cases hc : 0 ≤ v3
  · have h := (if_pos hc).symm.trans h
    obtain ⟨v4, ev4, h⟩ := bd h
    have iv4 := gR_in hB (show 4 ≤ 11 from by decide) ev4
    obtain ⟨v5, ev5, h⟩ := bd h
    have iv5 := gB_in hB iv4 ev5
    obtain ⟨q6, eq6, h⟩ := bd h
    have rq6 := rc_in hB (show 4 ≤ 11 from by decide) eq6
    obtain ⟨M7, eM7, h⟩ := bd h
    have w := oX4_dropWaiter fu q6 v3 M2 hB rq6 eM7
    have hS := hS.tr w.1
    have hB := w.2
    by_cases hc : v5 = none
    · have h := (if_pos hc).symm.trans h
      obtain rfl := Option.some.inj h
      exact ⟨hS, hB⟩
    · have h := (if_neg hc).symm.trans h
      obtain ⟨v8, ev8, h⟩ := bd h
      have iv8 := gR_in hB (show 6 ≤ 11 from by decide) ev8
      obtain ⟨v9, ev9, h⟩ := bd h
      have iv9 := gR_in hB (show 4 ≤ 11 from by decide) ev9
      obtain ⟨v10, ev10, h⟩ := bd h
      obtain ⟨v11, ev11, h⟩ := bd h
      have iv11 := gR_in hB (show 4 ≤ 11 from by decide) ev11
      obtain ⟨v12, ev12, h⟩ := bd h
      obtain ⟨q13, eq13, h⟩ := bd h
      have rq13 := rc_in hB (show 4 ≤ 11 from by decide) eq13
      obtain ⟨M14, eM14, h⟩ := bd h
      have w := oX4_fillLink fu q13 v8 v10 v12 (2048 : Int32) M7 hB rq13 iv8 eM14
      have hS := hS.tr w.1
      have hB := w.2
      obtain ⟨v15, ev15, h⟩ := bd h
      have iv15 := gR_in hB (show 4 ≤ 11 from by decide) ev15
      obtain ⟨v16, ev16, h⟩ := bd h
      have iv16 := gR_in hB (show 6 ≤ 11 from by decide) ev16
      obtain ⟨v17, ev17, h⟩ := bd h
      obtain ⟨q18, eq18, h⟩ := bd h
      have rq18 := rc_in hB (show 10 ≤ 11 from by decide) eq18
      obtain ⟨M19, eM19, h⟩ := bd h
      have w := oX10_put fu q18 v16 v17 M14 hB rq18 iv16 eM19
      have hS := hS.tr w.1
      have hB := w.2
      obtain rfl := Option.some.inj h
      exact ⟨hS, hB⟩
  · have h := (if_neg hc).symm.trans h
    obtain rfl := Option.some.inj h
    exact ⟨hS, hB⟩
theorem oX4_takeArp_L171 (fu : Nat)   (a0 : Nat) (a1 : Option Nat) (a3 : Int32) (a4 : Int32) (a5 : Int32)  (M : Mm) {out : Mm} (hB : Bd RX TX M) (ra0 : RX a0) (ia1 : inR RX a1) (h : fX4_takeArp_L171 fu  a0 a1 a3 a4 a5 M = some out) : Sm RX M out ∧ Bd RX TX out := by
  unfold fX4_takeArp_L171 at h
  have hS : Sm RX M M := Sm.rf
  by_cases hc : a5 = 0
  · have h := (if_pos hc).symm.trans h
    obtain rfl := Option.some.inj h
    exact ⟨hS, hB⟩
  · have h := (if_neg hc).symm.trans h
    by_cases hc : a3 = (1 : Int32)
    · have h := (if_pos hc).symm.trans h
      obtain ⟨v2, M1, eM1, h⟩ := b2d h
      have w := oX11_two fu  a1 (22 : Int32) M hB ia1 eM1
      have hS := hS.tr w.1
      have hB := w.2
      obtain ⟨v4, M3, eM3, h⟩ := b2d h
      have w := oX11_four fu  a1 (24 : Int32) M1 hB ia1 eM3
      have hS := hS.tr w.1
      have hB := w.2
      obtain ⟨q5, eq5, h⟩ := bd h
      have rq5 := rc_in hB (show 4 ≤ 11 from by decide) eq5
      obtain ⟨M6, eM6, h⟩ := bd h
      have w := oX4_fillArp fu q5 (2 : Int32) v2 v4 a4 M3 hB rq5 eM6
      have hS := hS.tr w.1
      have hB := w.2
      obtain ⟨v7, ev7, h⟩ := bd h
      have iv7 := gR_in hB (show 4 ≤ 11 from by decide) ev7
      obtain ⟨v9, M8, eM8, h⟩ := b2d h
      have w := oX11_two fu  a1 (22 : Int32) M6 hB ia1 eM8
      have hS := hS.tr w.1
      have hB := w.2
      obtain ⟨v11, M10, eM10, h⟩ := b2d h
      have w := oX11_four fu  a1 (24 : Int32) M8 hB ia1 eM10
      have hS := hS.tr w.1
      have hB := w.2
      obtain ⟨q12, eq12, h⟩ := bd h
      have rq12 := rc_in hB (show 4 ≤ 11 from by decide) eq12
      obtain ⟨M13, eM13, h⟩ := bd h
      have w := oX4_fillLink fu q12 v7 v9 v11 (2054 : Int32) M10 hB rq12 iv7 eM13
      have hS := hS.tr w.1
      have hB := w.2
      obtain ⟨v14, ev14, h⟩ := bd h
      have iv14 := gR_in hB (show 4 ≤ 11 from by decide) ev14
      obtain ⟨v15, ev15, h⟩ := bd h
      have iv15 := gR_in hB (show 4 ≤ 11 from by decide) ev15
      obtain ⟨q16, eq16, h⟩ := bd h
      have rq16 := rc_in hB (show 10 ≤ 11 from by decide) eq16
      obtain ⟨M17, eM17, h⟩ := bd h
      have w := oX10_put fu q16 v15 (42 : Int32) M13 hB rq16 iv15 eM17
      have hS := hS.tr w.1
      have hB := w.2
      obtain rfl := Option.some.inj h
      exact ⟨hS, hB⟩
    · have h := (if_neg hc).symm.trans h
      obtain rfl := Option.some.inj h
      exact ⟨hS, hB⟩
theorem oX4_takeArp_L109 (fu : Nat)   (a0 : Nat) (a1 : Option Nat) (a3 : Int32) (a4 : Int32) (a5 : Int32) (a6 : Int32)  (M : Mm) {out : Mm} (hB : Bd RX TX M) (ra0 : RX a0) (ia1 : inR RX a1) (h : fX4_takeArp_L109 fu  a0 a1 a3 a4 a5 a6 M = some out) : Sm RX M out ∧ Bd RX TX out := by
  unfold fX4_takeArp_L109 at h
  have hS : Sm RX M M := Sm.rf
  by_cases hc : a6 < 0
  · have h := (if_pos hc).symm.trans h
    have z := oX4_takeArp_L171 fu   a0 a1 a3 a4 a5 M hB ra0 ia1 h
    exact ⟨hS.tr z.1, z.2⟩
  · have h := (if_neg hc).symm.trans h
    obtain ⟨v1, ev1, h⟩ := bd h
    have iv1 := gR_in hB (show 4 ≤ 11 from by decide) ev1
    obtain ⟨M2, eM2, h⟩ := bd h
    have w := pA_own hB iv1 (by decide) eM2
    have hS := hS.tr w.1
    have hB := w.2
    obtain ⟨v3, ev3, h⟩ := bd h
    have iv3 := gR_in hB (show 4 ≤ 11 from by decide) ev3
    obtain ⟨v5, M4, eM4, h⟩ := b2d h
    have w := oX11_two fu  a1 (22 : Int32) M2 hB ia1 eM4
    have hS := hS.tr w.1
    have hB := w.2
    obtain ⟨M6, eM6, h⟩ := bd h
    have w := pA_own hB iv3 (by decide) eM6
    have hS := hS.tr w.1
    have hB := w.2
    obtain ⟨v7, ev7, h⟩ := bd h
    have iv7 := gR_in hB (show 4 ≤ 11 from by decide) ev7
    obtain ⟨v9, M8, eM8, h⟩ := b2d h
    have w := oX11_four fu  a1 (24 : Int32) M6 hB ia1 eM8
    have hS := hS.tr w.1
    have hB := w.2
    obtain ⟨M10, eM10, h⟩ := bd h
    have w := pA_own hB iv7 (by decide) eM10
    have hS := hS.tr w.1
    have hB := w.2
    obtain ⟨v11, ev11, h⟩ := bd h
    have iv11 := gR_in hB (show 4 ≤ 11 from by decide) ev11
    obtain ⟨v12, ev12, h⟩ := bd h
    have iv12 := gR_in hB (show 4 ≤ 11 from by decide) ev12
    obtain ⟨v13, ev13, h⟩ := bd h
    obtain ⟨M14, eM14, h⟩ := bd h
    have w := pA_own hB iv11 (by decide) eM14
    have hS := hS.tr w.1
    have hB := w.2
    obtain ⟨q15, eq15, h⟩ := bd h
    have rq15 := rc_in hB (show 4 ≤ 11 from by decide) eq15
    obtain ⟨M16, eM16, h⟩ := bd h
    have w := oX4_release fu q15 a4 a6 M14 hB rq15 eM16
    have hS := hS.tr w.1
    have hB := w.2
    have z := oX4_takeArp_L171 fu   a0 a1 a3 a4 a5 M16 hB ra0 ia1 h
    exact ⟨hS.tr z.1, z.2⟩
theorem oX4_takeArp_L74 (fu : Nat)   (a0 : Nat) (a1 : Option Nat) (a3 : Int32) (a4 : Int32) (s0 : Int32) (M : Mm) {out : Mm} (hB : Bd RX TX M) (ra0 : RX a0) (ia1 : inR RX a1) (h : fX4_takeArp_L74 fu  a0 a1 a3 a4 s0 M = some out) : Sm RX M out ∧ Bd RX TX out := by
  unfold fX4_takeArp_L74 at h
  have hS : Sm RX M M := Sm.rf
  obtain ⟨q1, eq1, h⟩ := bd h
  have rq1 := rc_in hB (show 4 ≤ 11 from by decide) eq1
  obtain ⟨v3, M2, eM2, h⟩ := b2d h
  have w := oX4_entryOf fu q1 a4 M hB rq1 eM2
  have hS := hS.tr w.1
  have hB := w.2
  by_cases hc : 0 ≤ v3
  · have h := (if_pos hc).symm.trans h
    have z := oX4_takeArp_L109 fu   a0 a1 a3 a4 s0 v3 M2 hB ra0 ia1 h
    exact ⟨hS.tr z.1, z.2⟩
  · have h := (if_neg hc).symm.trans h
    by_cases hc : s0 = 0
    · have h := (if_pos hc).symm.trans h
      have z := oX4_takeArp_L109 fu   a0 a1 a3 a4 s0 v3 M2 hB ra0 ia1 h
      exact ⟨hS.tr z.1, z.2⟩
    · have h := (if_neg hc).symm.trans h
      obtain ⟨v4, ev4, h⟩ := bd h
      by_cases hc : a4 = v4
      · have h := (if_pos hc).symm.trans h
        have z := oX4_takeArp_L109 fu   a0 a1 a3 a4 s0 v3 M2 hB ra0 ia1 h
        exact ⟨hS.tr z.1, z.2⟩
      · have h := (if_neg hc).symm.trans h
        obtain ⟨q5, eq5, h⟩ := bd h
        have rq5 := rc_in hB (show 4 ≤ 11 from by decide) eq5
        obtain ⟨v7, M6, eM6, h⟩ := b2d h
        have w := oX4_newEntry fu q5  M2 hB rq5 eM6
        have hS := hS.tr w.1
        have hB := w.2
        have z := oX4_takeArp_L109 fu   a0 a1 a3 a4 s0 v7 M6 hB ra0 ia1 h
        exact ⟨hS.tr z.1, z.2⟩
theorem oX4_takeArp_L48 (fu : Nat)   (a0 : Nat) (a1 : Option Nat) (a3 : Int32)  (M : Mm) {out : Mm} (hB : Bd RX TX M) (ra0 : RX a0) (ia1 : inR RX a1) (h : fX4_takeArp_L48 fu  a0 a1 a3 M = some out) : Sm RX M out ∧ Bd RX TX out := by
  unfold fX4_takeArp_L48 at h
  have hS : Sm RX M M := Sm.rf
  obtain ⟨v2, M1, eM1, h⟩ := b2d h
  have w := oX11_four fu  a1 (28 : Int32) M hB ia1 eM1
  have hS := hS.tr w.1
  have hB := w.2
  obtain ⟨v4, M3, eM3, h⟩ := b2d h
  have w := oX11_four fu  a1 (38 : Int32) M1 hB ia1 eM3
  have hS := hS.tr w.1
  have hB := w.2
  obtain ⟨v5, ev5, h⟩ := bd h
  by_cases hc : v4 = v5
  · have h := (if_pos hc).symm.trans h
    have z := oX4_takeArp_L74 fu   a0 a1 a3 v2 (1 : Int32) M3 hB ra0 ia1 h
    exact ⟨hS.tr z.1, z.2⟩
  · have h := (if_neg hc).symm.trans h
    have z := oX4_takeArp_L74 fu   a0 a1 a3 v2 (0 : Int32) M3 hB ra0 ia1 h
    exact ⟨hS.tr z.1, z.2⟩
theorem oX4_takeArp (fu : Nat)   (a0 : Nat) (a1 : Option Nat) (a2 : Int32)  (M : Mm) {out : Mm} (hB : Bd RX TX M) (ra0 : RX a0) (ia1 : inR RX a1) (h : fX4_takeArp fu  a0 a1 a2 M = some out) : Sm RX M out ∧ Bd RX TX out := by
  unfold fX4_takeArp at h
  have hS : Sm RX M M := Sm.rf
  by_cases hc : a2 < (42 : Int32)
  · have h := (if_pos hc).symm.trans h
    obtain rfl := Option.some.inj h
    exact ⟨hS, hB⟩
  · have h := (if_neg hc).symm.trans h
    obtain ⟨v2, M1, eM1, h⟩ := b2d h
    have w := oX11_four fu  a1 (14 : Int32) M hB ia1 eM1
    have hS := hS.tr w.1
    have hB := w.2
    by_cases hc : v2 = (67584 : Int32)
    · have h := (if_pos hc).symm.trans h
      obtain ⟨v4, M3, eM3, h⟩ := b2d h
      have w := oX11_two fu  a1 (18 : Int32) M1 hB ia1 eM3
      have hS := hS.tr w.1
      have hB := w.2
      by_cases hc : v4 = (1540 : Int32)
      · have h := (if_pos hc).symm.trans h
        obtain ⟨v6, M5, eM5, h⟩ := b2d h
        have w := oX11_two fu  a1 (20 : Int32) M3 hB ia1 eM5
        have hS := hS.tr w.1
        have hB := w.2
        by_cases hc : v6 = (1 : Int32)
        · have h := (if_pos hc).symm.trans h
          have z := oX4_takeArp_L48 fu   a0 a1 v6 M5 hB ra0 ia1 h
          exact ⟨hS.tr z.1, z.2⟩
        · have h := (if_neg hc).symm.trans h
          by_cases hc : v6 = (2 : Int32)
          · have h := (if_pos hc).symm.trans h
            have z := oX4_takeArp_L48 fu   a0 a1 v6 M5 hB ra0 ia1 h
            exact ⟨hS.tr z.1, z.2⟩
          · have h := (if_neg hc).symm.trans h
            obtain rfl := Option.some.inj h
            exact ⟨hS, hB⟩
      · have h := (if_neg hc).symm.trans h
        obtain rfl := Option.some.inj h
        exact ⟨hS, hB⟩
    · have h := (if_neg hc).symm.trans h
      obtain rfl := Option.some.inj h
      exact ⟨hS, hB⟩
theorem oX4_dueOf (fu : Nat)   (a0 : Option Nat)  (M : Mm) {out : Int32 × Mm} (hB : Bd RX TX M) (ia0 : inR RX a0) (h : fX4_dueOf fu  a0 M = some out) : Sm RX M out.2 ∧ Bd RX TX out.2 := by
  unfold fX4_dueOf at h
  have hS : Sm RX M M := Sm.rf
  by_cases hc : a0 = none
  · have h := (if_pos hc).symm.trans h
    obtain rfl := Option.some.inj h
    exact ⟨hS, hB⟩
  · have h := (if_neg hc).symm.trans h
    obtain ⟨v1, ev1, h⟩ := bd h
    obtain ⟨v2, ev2, h⟩ := bd h
    obtain rfl := Option.some.inj h
    exact ⟨hS, hB⟩
theorem oX4_earliest_L5 (fu : Nat) {out : Int32 × Mm}   : ∀ (n : Nat) (a0 : Nat) (a1 : Int32) (a2 : Int32)  (M : Mm), Bd RX TX M → RX a0 → fX4_earliest_L5 fu  n a0 a1 a2 M = some out → Sm RX M out.2 ∧ Bd RX TX out.2 := by
  intro n
  induction n with
  | zero =>
    intro a0 a1 a2 M hB ra0 h
    have h : (none : Option (Int32 × Mm)) = some out := h
    cases h
  | succ n ih =>
    intro a0 a1 a2 M hB ra0 h
    rw [fX4_earliest_L5] at h
    have hS : Sm RX M M := Sm.rf
    obtain ⟨v1, ev1, h⟩ := bd h
    by_cases hc : v1 ≤ a2
    · have h := (if_pos hc).symm.trans h
      obtain rfl := Option.some.inj h
      exact ⟨hS, hB⟩
    · have h := (if_neg hc).symm.trans h
      by_cases hc : (8 : Int32) ≤ a2
      · have h := (if_pos hc).symm.trans h
        obtain rfl := Option.some.inj h
        exact ⟨hS, hB⟩
      · have h := (if_neg hc).symm.trans h
        obtain ⟨v2, ev2, h⟩ := bd h
        have iv2 := gR_in hB (show 4 ≤ 11 from by decide) ev2
        obtain ⟨v3, ev3, h⟩ := bd h
        have iv3 := gB_in hB iv2 ev3
        obtain ⟨v5, M4, eM4, h⟩ := b2d h
        have w := oX4_dueOf fu  v3 M hB iv3 eM4
        have hS := hS.tr w.1
        have hB := w.2
        have z := ih a0 (jmin a1 v5) (a2 + (1 : Int32)) M4 hB ra0 h
        exact ⟨hS.tr z.1, z.2⟩
theorem oX4_earliest (fu : Nat)   (a0 : Nat)  (M : Mm) {out : Int32 × Mm} (hB : Bd RX TX M) (ra0 : RX a0) (h : fX4_earliest fu  a0 M = some out) : Sm RX M out.2 ∧ Bd RX TX out.2 := by
  unfold fX4_earliest at h
  have hS : Sm RX M M := Sm.rf
  have z := oX4_earliest_L5 fu   fu a0 (2147483647 : Int32) (0 : Int32) M hB ra0 h
  exact ⟨hS.tr z.1, z.2⟩
theorem oX4_repeat_L87 (fu : Nat) {out : Int32 × Mm} (k2 : Nat → Int32 → Int32 → Mm → Option (Int32 × Mm)) (hk2 : ∀ (b0 : Nat) (b1 : Int32) (b2 : Int32)  (M : Mm), Bd RX TX M → RX b0 → k2 b0 b1 b2 M = some out → Sm RX M out.2 ∧ Bd RX TX out.2) (a0 : Nat) (a1 : Int32) (a2 : Int32)  (M : Mm) (hB : Bd RX TX M) (ra0 : RX a0) (h : fX4_repeat_L87 fu k2 a0 a1 a2 M = some out) : Sm RX M out.2 ∧ Bd RX TX out.2 := by
  unfold fX4_repeat_L87 at h
  have hS : Sm RX M M := Sm.rf
  have z := hk2 a0 a1 (a2 + (1 : Int32)) M hB ra0 h
  exact ⟨hS.tr z.1, z.2⟩
theorem oX4_repeat_L2 (fu : Nat) {out : Int32 × Mm}   : ∀ (n : Nat) (a0 : Nat) (a1 : Int32) (a2 : Int32)  (M : Mm), Bd RX TX M → RX a0 → fX4_repeat_L2 fu  n a0 a1 a2 M = some out → Sm RX M out.2 ∧ Bd RX TX out.2 := by
  intro n
  induction n with
  | zero =>
    intro a0 a1 a2 M hB ra0 h
    have h : (none : Option (Int32 × Mm)) = some out := h
    cases h
  | succ n ih =>
    intro a0 a1 a2 M hB ra0 h
    rw [fX4_repeat_L2] at h
    have hS : Sm RX M M := Sm.rf
    obtain ⟨v1, ev1, h⟩ := bd h
    by_cases hc : v1 ≤ a2
    · have h := (if_pos hc).symm.trans h
      obtain ⟨hz, rfl⟩ := rN_some h
      exact ⟨hS, hB⟩
    · have h := (if_neg hc).symm.trans h
      by_cases hc : (8 : Int32) ≤ a2
      · have h := (if_pos hc).symm.trans h
        obtain ⟨hz, rfl⟩ := rN_some h
        exact ⟨hS, hB⟩
      · have h := (if_neg hc).symm.trans h
        obtain ⟨v2, ev2, h⟩ := bd h
        have iv2 := gR_in hB (show 4 ≤ 11 from by decide) ev2
        obtain ⟨v3, ev3, h⟩ := bd h
        have iv3 := gB_in hB iv2 ev3
        by_cases hc : v3 = none
        · have h := (if_pos hc).symm.trans h
          have z := oX4_repeat_L87 fu (fun b0 b1 b2 M => fX4_repeat_L2 fu  n b0 b1 b2 M) ih a0 a1 a2 M hB ra0 h
          exact ⟨hS.tr z.1, z.2⟩
        · have h := (if_neg hc).symm.trans h
          obtain ⟨v5, M4, eM4, h⟩ := b2d h
          have w := oX4_dueOf fu  v3 M hB iv3 eM4
          have hS := hS.tr w.1
          have hB := w.2
          by_cases hc : v5 = a1
          · have h := (if_pos hc).symm.trans h
            obtain ⟨v6, ev6, h⟩ := bd h
            by_cases hc : (3 : Int32) ≤ v6
            · have h := (if_pos hc).symm.trans h
              obtain ⟨q7, eq7, h⟩ := bd h
              have rq7 := rc_in hB (show 4 ≤ 11 from by decide) eq7
              obtain ⟨M8, eM8, h⟩ := bd h
              have w := oX4_dropWaiter fu q7 a2 M4 hB rq7 eM8
              have hS := hS.tr w.1
              have hB := w.2
              obtain ⟨hz, rfl⟩ := rN_some h
              exact ⟨hS, hB⟩
            · have h := (if_neg hc).symm.trans h
              obtain ⟨v9, ev9, h⟩ := bd h
              obtain ⟨M10, eM10, h⟩ := bd h
              have w := pF_own hB (show 6 ≤ 11 from by decide) eM10
              have hS := hS.tr w.1
              have hB := w.2
              obtain ⟨v11, ev11, h⟩ := bd h
              obtain ⟨q12, eq12, h⟩ := bd h
              have rq12 := rc_in hB (show 4 ≤ 11 from by decide) eq12
              obtain ⟨M13, eM13, h⟩ := bd h
              have w := oX4_fillAsk fu q12 v11 M10 hB rq12 eM13
              have hS := hS.tr w.1
              have hB := w.2
              obtain ⟨v14, ev14, h⟩ := bd h
              have iv14 := gR_in hB (show 4 ≤ 11 from by decide) ev14
              obtain ⟨v15, ev15, h⟩ := bd h
              have iv15 := gR_in hB (show 4 ≤ 11 from by decide) ev15
              obtain ⟨q16, eq16, h⟩ := bd h
              have rq16 := rc_in hB (show 10 ≤ 11 from by decide) eq16
              obtain ⟨M17, eM17, h⟩ := bd h
              have w := oX10_put fu q16 v15 (42 : Int32) M13 hB rq16 iv15 eM17
              have hS := hS.tr w.1
              have hB := w.2
              obtain ⟨hz, rfl⟩ := rN_some h
              exact ⟨hS, hB⟩
          · have h := (if_neg hc).symm.trans h
            have z := oX4_repeat_L87 fu (fun b0 b1 b2 M => fX4_repeat_L2 fu  n b0 b1 b2 M) ih a0 a1 a2 M4 hB ra0 h
            exact ⟨hS.tr z.1, z.2⟩
theorem oX4_repeat (fu : Nat)   (a0 : Nat) (a1 : Int32)  (M : Mm) {out : Int32 × Mm} (hB : Bd RX TX M) (ra0 : RX a0) (h : fX4_repeat fu  a0 a1 M = some out) : Sm RX M out.2 ∧ Bd RX TX out.2 := by
  unfold fX4_repeat at h
  have hS : Sm RX M M := Sm.rf
  have z := oX4_repeat_L2 fu   fu a0 a1 (0 : Int32) M hB ra0 h
  exact ⟨hS.tr z.1, z.2⟩
theorem oX5_startTiming (fu : Nat)   (a0 : Nat) (a1 : Int32) (a2 : Int32)  (M : Mm) {out : Mm} (hB : Bd RX TX M) (ra0 : RX a0) (h : fX5_startTiming fu  a0 a1 a2 M = some out) : Sm RX M out ∧ Bd RX TX out := by
  unfold fX5_startTiming at h
  have hS : Sm RX M M := Sm.rf
  obtain ⟨v1, ev1, h⟩ := bd h
  by_cases hc : v1 = 0
  · have h := (if_pos hc).symm.trans h
    obtain ⟨M2, eM2, h⟩ := bd h
    have w := pZ_own hB (show 5 ≤ 11 from by decide) eM2
    have hS := hS.tr w.1
    have hB := w.2
    obtain ⟨M3, eM3, h⟩ := bd h
    have w := pF_own hB (show 5 ≤ 11 from by decide) eM3
    have hS := hS.tr w.1
    have hB := w.2
    obtain ⟨M4, eM4, h⟩ := bd h
    have w := pF_own hB (show 5 ≤ 11 from by decide) eM4
    have hS := hS.tr w.1
    have hB := w.2
    obtain rfl := Option.some.inj h
    exact ⟨hS, hB⟩
  · have h := (if_neg hc).symm.trans h
    obtain rfl := Option.some.inj h
    exact ⟨hS, hB⟩
theorem oX5_endTiming_L94 (fu : Nat)   (a0 : Nat)  (M : Mm) {out : Mm} (hB : Bd RX TX M) (ra0 : RX a0) (h : fX5_endTiming_L94 fu  a0 M = some out) : Sm RX M out ∧ Bd RX TX out := by
  unfold fX5_endTiming_L94 at h
  have hS : Sm RX M M := Sm.rf
  obtain ⟨v1, ev1, h⟩ := bd h
  obtain ⟨v2, ev2, h⟩ := bd h
  obtain ⟨M3, eM3, h⟩ := bd h
  have w := pF_own hB (show 5 ≤ 11 from by decide) eM3
  have hS := hS.tr w.1
  have hB := w.2
  obtain rfl := Option.some.inj h
  exact ⟨hS, hB⟩
theorem oX5_endTiming (fu : Nat)   (a0 : Nat) (a1 : Int32) (a2 : Int32)  (M : Mm) {out : Mm} (hB : Bd RX TX M) (ra0 : RX a0) (h : fX5_endTiming fu  a0 a1 a2 M = some out) : Sm RX M out ∧ Bd RX TX out := by
  unfold fX5_endTiming at h
  have hS : Sm RX M M := Sm.rf
  obtain ⟨v1, ev1, h⟩ := bd h
  by_cases hc : v1 = 0
  · have h := (if_pos hc).symm.trans h
    obtain rfl := Option.some.inj h
    exact ⟨hS, hB⟩
  · have h := (if_neg hc).symm.trans h
    obtain ⟨v2, ev2, h⟩ := bd h
    by_cases hc : 0 < (a1 - v2)
    · have h := (if_pos hc).symm.trans h
      obtain ⟨M3, eM3, h⟩ := bd h
      have w := pZ_own hB (show 5 ≤ 11 from by decide) eM3
      have hS := hS.tr w.1
      have hB := w.2
      obtain ⟨v4, ev4, h⟩ := bd h
      obtain ⟨v5, ev5, h⟩ := bd h
      by_cases hc : v5 = 0
      · have h := (if_pos hc).symm.trans h
        obtain ⟨M6, eM6, h⟩ := bd h
        have w := pZ_own hB (show 5 ≤ 11 from by decide) eM6
        have hS := hS.tr w.1
        have hB := w.2
        obtain ⟨M7, eM7, h⟩ := bd h
        have w := pF_own hB (show 5 ≤ 11 from by decide) eM7
        have hS := hS.tr w.1
        have hB := w.2
        obtain ⟨M8, eM8, h⟩ := bd h
        have w := pF_own hB (show 5 ≤ 11 from by decide) eM8
        have hS := hS.tr w.1
        have hB := w.2
        have z := oX5_endTiming_L94 fu   a0 M8 hB ra0 h
        exact ⟨hS.tr z.1, z.2⟩
      · have h := (if_neg hc).symm.trans h
        obtain ⟨v9, ev9, h⟩ := bd h
        obtain ⟨v10, ev10, h⟩ := bd h
        obtain ⟨M11, eM11, h⟩ := bd h
        have w := pF_own hB (show 5 ≤ 11 from by decide) eM11
        have hS := hS.tr w.1
        have hB := w.2
        obtain ⟨v12, ev12, h⟩ := bd h
        obtain ⟨M13, eM13, h⟩ := bd h
        have w := pF_own hB (show 5 ≤ 11 from by decide) eM13
        have hS := hS.tr w.1
        have hB := w.2
        have z := oX5_endTiming_L94 fu   a0 M13 hB ra0 h
        exact ⟨hS.tr z.1, z.2⟩
    · have h := (if_neg hc).symm.trans h
      obtain rfl := Option.some.inj h
      exact ⟨hS, hB⟩
theorem oX5_grow (fu : Nat)   (a0 : Nat) (a1 : Int32)  (M : Mm) {out : Mm} (hB : Bd RX TX M) (ra0 : RX a0) (h : fX5_grow fu  a0 a1 M = some out) : Sm RX M out ∧ Bd RX TX out := by
  unfold fX5_grow at h
  have hS : Sm RX M M := Sm.rf
  obtain ⟨v1, ev1, h⟩ := bd h
  by_cases hc : v1 = 0
  · have h := (if_pos hc).symm.trans h
    obtain ⟨v2, ev2, h⟩ := bd h
    obtain ⟨v3, ev3, h⟩ := bd h
    by_cases hc : v3 ≤ v2
    · have h := (if_pos hc).symm.trans h
      obtain ⟨v4, ev4, h⟩ := bd h
      obtain ⟨v5, ev5, h⟩ := bd h
      obtain ⟨v6, ev6, h⟩ := bd h
      obtain ⟨v7, ev7, h⟩ := bd h
      by_cases hz : (jmax (1 : Int32) v7) = 0
      · rw [if_pos hz] at h; cases h
      have h := (if_neg hz).symm.trans h
      obtain ⟨M8, eM8, h⟩ := bd h
      have w := pF_own hB (show 5 ≤ 11 from by decide) eM8
      have hS := hS.tr w.1
      have hB := w.2
      obtain rfl := Option.some.inj h
      exact ⟨hS, hB⟩
    · have h := (if_neg hc).symm.trans h
      obtain ⟨v9, ev9, h⟩ := bd h
      obtain ⟨v10, ev10, h⟩ := bd h
      obtain ⟨M11, eM11, h⟩ := bd h
      have w := pF_own hB (show 5 ≤ 11 from by decide) eM11
      have hS := hS.tr w.1
      have hB := w.2
      obtain rfl := Option.some.inj h
      exact ⟨hS, hB⟩
  · have h := (if_neg hc).symm.trans h
    obtain ⟨M12, eM12, h⟩ := bd h
    have w := pZ_own hB (show 5 ≤ 11 from by decide) eM12
    have hS := hS.tr w.1
    have hB := w.2
    obtain ⟨v13, ev13, h⟩ := bd h
    obtain ⟨M14, eM14, h⟩ := bd h
    have w := pF_own hB (show 5 ≤ 11 from by decide) eM14
    have hS := hS.tr w.1
    have hB := w.2
    obtain rfl := Option.some.inj h
    exact ⟨hS, hB⟩
theorem oX5_lowerThreshold (fu : Nat)   (a0 : Nat) (a1 : Int32)  (M : Mm) {out : Mm} (hB : Bd RX TX M) (ra0 : RX a0) (h : fX5_lowerThreshold fu  a0 a1 M = some out) : Sm RX M out ∧ Bd RX TX out := by
  unfold fX5_lowerThreshold at h
  have hS : Sm RX M M := Sm.rf
  obtain ⟨v1, ev1, h⟩ := bd h
  obtain ⟨M2, eM2, h⟩ := bd h
  have w := pF_own hB (show 5 ≤ 11 from by decide) eM2
  have hS := hS.tr w.1
  have hB := w.2
  obtain rfl := Option.some.inj h
  exact ⟨hS, hB⟩
theorem oX5_countDuplicate_L36 (fu : Nat)   (a0 : Nat) (a1 : Int32)  (M : Mm) {out : Int32 × Mm} (hB : Bd RX TX M) (ra0 : RX a0) (h : fX5_countDuplicate_L36 fu  a0 a1 M = some out) : Sm RX M out.2 ∧ Bd RX TX out.2 := by
  unfold fX5_countDuplicate_L36 at h
  have hS : Sm RX M M := Sm.rf
  obtain ⟨v1, ev1, h⟩ := bd h
  by_cases hc : v1 = (3 : Int32)
  · have h := (if_pos hc).symm.trans h
    obtain ⟨q2, eq2, h⟩ := bd h
    have rq2 := rc_in hB (show 5 ≤ 11 from by decide) eq2
    obtain ⟨M3, eM3, h⟩ := bd h
    have w := oX5_lowerThreshold fu q2 a1 M hB rq2 eM3
    have hS := hS.tr w.1
    have hB := w.2
    obtain ⟨v4, ev4, h⟩ := bd h
    obtain ⟨v5, ev5, h⟩ := bd h
    obtain ⟨M6, eM6, h⟩ := bd h
    have w := pF_own hB (show 5 ≤ 11 from by decide) eM6
    have hS := hS.tr w.1
    have hB := w.2
    obtain ⟨M7, eM7, h⟩ := bd h
    have w := pZ_own hB (show 5 ≤ 11 from by decide) eM7
    have hS := hS.tr w.1
    have hB := w.2
    obtain ⟨hz, rfl⟩ := rN_some h
    exact ⟨hS, hB⟩
  · have h := (if_neg hc).symm.trans h
    obtain ⟨hz, rfl⟩ := rN_some h
    exact ⟨hS, hB⟩
theorem oX5_countDuplicate (fu : Nat)   (a0 : Nat) (a1 : Int32)  (M : Mm) {out : Int32 × Mm} (hB : Bd RX TX M) (ra0 : RX a0) (h : fX5_countDuplicate fu  a0 a1 M = some out) : Sm RX M out.2 ∧ Bd RX TX out.2 := by
  unfold fX5_countDuplicate at h
  have hS : Sm RX M M := Sm.rf
  obtain ⟨v1, ev1, h⟩ := bd h
  obtain ⟨M2, eM2, h⟩ := bd h
  have w := pF_own hB (show 5 ≤ 11 from by decide) eM2
  have hS := hS.tr w.1
  have hB := w.2
  obtain ⟨v3, ev3, h⟩ := bd h
  by_cases hc : v3 ≤ (3 : Int32)
  · have h := (if_pos hc).symm.trans h
    have z := oX5_countDuplicate_L36 fu   a0 a1 M2 hB ra0 h
    exact ⟨hS.tr z.1, z.2⟩
  · have h := (if_neg hc).symm.trans h
    obtain ⟨v4, ev4, h⟩ := bd h
    obtain ⟨v5, ev5, h⟩ := bd h
    obtain ⟨M6, eM6, h⟩ := bd h
    have w := pF_own hB (show 5 ≤ 11 from by decide) eM6
    have hS := hS.tr w.1
    have hB := w.2
    have z := oX5_countDuplicate_L36 fu   a0 a1 M6 hB ra0 h
    exact ⟨hS.tr z.1, z.2⟩
theorem oX5_backOff (fu : Nat)   (a0 : Nat)  (M : Mm) {out : Mm} (hB : Bd RX TX M) (ra0 : RX a0) (h : fX5_backOff fu  a0 M = some out) : Sm RX M out ∧ Bd RX TX out := by
  unfold fX5_backOff at h
  have hS : Sm RX M M := Sm.rf
  obtain ⟨v1, ev1, h⟩ := bd h
  obtain ⟨M2, eM2, h⟩ := bd h
  have w := pF_own hB (show 5 ≤ 11 from by decide) eM2
  have hS := hS.tr w.1
  have hB := w.2
  obtain ⟨M3, eM3, h⟩ := bd h
  have w := pZ_own hB (show 5 ≤ 11 from by decide) eM3
  have hS := hS.tr w.1
  have hB := w.2
  obtain ⟨M4, eM4, h⟩ := bd h
  have w := pF_own hB (show 5 ≤ 11 from by decide) eM4
  have hS := hS.tr w.1
  have hB := w.2
  obtain ⟨v5, ev5, h⟩ := bd h
  obtain ⟨M6, eM6, h⟩ := bd h
  have w := pF_own hB (show 5 ≤ 11 from by decide) eM6
  have hS := hS.tr w.1
  have hB := w.2
  obtain rfl := Option.some.inj h
  exact ⟨hS, hB⟩
theorem oX7_init (fu : Nat)   (a0 : Nat) (a1 : Option Nat) (a2 : Option Nat)  (M : Mm) {out : Mm} (hB : Bd RX TX M) (ra0 : RX a0) (ia1 : inR RX a1) (ia2 : inR RX a2) (h : fX7_init fu  a0 a1 a2 M = some out) : Sm RX M out ∧ Bd RX TX out := by
  unfold fX7_init at h
  have hS : Sm RX M M := Sm.rf
  obtain ⟨M1, eM1, h⟩ := bd h
  have w := pG_own hB (show 7 ≤ 11 from by decide) ia1 eM1
  have hS := hS.tr w.1
  have hB := w.2
  obtain ⟨M2, eM2, h⟩ := bd h
  have w := pG_own hB (show 7 ≤ 11 from by decide) ia2 eM2
  have hS := hS.tr w.1
  have hB := w.2
  obtain ⟨v3, M4, eM4, h⟩ := b2d h
  have w := mkA_own hB (by decide) eM4
  have hS := hS.tr w.1
  have rv3 := w.2.2
  have hB := w.2.1
  obtain ⟨M5, eM5, h⟩ := bd h
  have w := pG_own hB (show 7 ≤ 11 from by decide) (inR_some rv3) eM5
  have hS := hS.tr w.1
  have hB := w.2
  obtain ⟨v6, M7, eM7, h⟩ := b2d h
  have w := mkA_own hB (by decide) eM7
  have hS := hS.tr w.1
  have rv6 := w.2.2
  have hB := w.2.1
  obtain ⟨M8, eM8, h⟩ := bd h
  have w := pG_own hB (show 7 ≤ 11 from by decide) (inR_some rv6) eM8
  have hS := hS.tr w.1
  have hB := w.2
  obtain rfl := Option.some.inj h
  exact ⟨hS, hB⟩
theorem oX7_emptyLines_L7 (fu : Nat) {out : Int32 × Mm}   : ∀ (n : Nat) (a0 : Option Nat) (a1 : Int32) (a2 : Int32)  (M : Mm), Bd RX TX M → inR RX a0 → fX7_emptyLines_L7 fu  n a0 a1 a2 M = some out → Sm RX M out.2 ∧ Bd RX TX out.2 := by
  intro n
  induction n with
  | zero =>
    intro a0 a1 a2 M hB ia0 h
    have h : (none : Option (Int32 × Mm)) = some out := h
    cases h
  | succ n ih =>
    intro a0 a1 a2 M hB ia0 h
    rw [fX7_emptyLines_L7] at h
    have hS : Sm RX M M := Sm.rf
    by_cases hc : a1 ≤ a2
    · have h := (if_pos hc).symm.trans h
      obtain rfl := Option.some.inj h
      exact ⟨hS, hB⟩
    · have h := (if_neg hc).symm.trans h
      obtain ⟨q1, eq1, h⟩ := bd h
      have rq1 := rc_in hB (show 0 ≤ 11 from by decide) eq1
      obtain ⟨v3, M2, eM2, h⟩ := b2d h
      have w := oX0_peek fu q1 a2 M hB rq1 eM2
      have hS := hS.tr w.1
      have hB := w.2
      by_cases hc : v3 = (10 : Int32)
      · have h := (if_pos hc).symm.trans h
        have z := ih a0 a1 (a2 + (1 : Int32)) M2 hB ia0 h
        exact ⟨hS.tr z.1, z.2⟩
      · have h := (if_neg hc).symm.trans h
        obtain ⟨q4, eq4, h⟩ := bd h
        have rq4 := rc_in hB (show 0 ≤ 11 from by decide) eq4
        obtain ⟨v6, M5, eM5, h⟩ := b2d h
        have w := oX0_peek fu q4 a2 M2 hB rq4 eM5
        have hS := hS.tr w.1
        have hB := w.2
        by_cases hc : v6 = (13 : Int32)
        · have h := (if_pos hc).symm.trans h
          by_cases hc : a1 ≤ (a2 + (1 : Int32))
          · have h := (if_pos hc).symm.trans h
            obtain rfl := Option.some.inj h
            exact ⟨hS, hB⟩
          · have h := (if_neg hc).symm.trans h
            obtain ⟨q7, eq7, h⟩ := bd h
            have rq7 := rc_in hB (show 0 ≤ 11 from by decide) eq7
            obtain ⟨v9, M8, eM8, h⟩ := b2d h
            have w := oX0_peek fu q7 (a2 + (1 : Int32)) M5 hB rq7 eM8
            have hS := hS.tr w.1
            have hB := w.2
            by_cases hc : v9 = (10 : Int32)
            · have h := (if_pos hc).symm.trans h
              have z := ih a0 a1 (a2 + (2 : Int32)) M8 hB ia0 h
              exact ⟨hS.tr z.1, z.2⟩
            · have h := (if_neg hc).symm.trans h
              obtain rfl := Option.some.inj h
              exact ⟨hS, hB⟩
        · have h := (if_neg hc).symm.trans h
          obtain rfl := Option.some.inj h
          exact ⟨hS, hB⟩
theorem oX7_emptyLines (fu : Nat)   (a0 : Option Nat)  (M : Mm) {out : Int32 × Mm} (hB : Bd RX TX M) (ia0 : inR RX a0) (h : fX7_emptyLines fu  a0 M = some out) : Sm RX M out.2 ∧ Bd RX TX out.2 := by
  unfold fX7_emptyLines at h
  have hS : Sm RX M M := Sm.rf
  obtain ⟨q1, eq1, h⟩ := bd h
  have rq1 := rc_in hB (show 0 ≤ 11 from by decide) eq1
  obtain ⟨v3, M2, eM2, h⟩ := b2d h
  have w := oX0_held fu q1  M hB rq1 eM2
  have hS := hS.tr w.1
  have hB := w.2
  have z := oX7_emptyLines_L7 fu   fu a0 v3 (0 : Int32) M2 hB ia0 h
  exact ⟨hS.tr z.1, z.2⟩
theorem oX7_lineEnd (fu : Nat)   (a0 : Nat) (a1 : Int32) (a2 : Int32)  (M : Mm) {out : Int32 × Mm} (hB : Bd RX TX M) (ra0 : RX a0) (h : fX7_lineEnd fu  a0 a1 a2 M = some out) : Sm RX M out.2 ∧ Bd RX TX out.2 := by
  unfold fX7_lineEnd at h
  have hS : Sm RX M M := Sm.rf
  by_cases hc : a2 ≤ a1
  · have h := (if_pos hc).symm.trans h
    obtain rfl := Option.some.inj h
    exact ⟨hS, hB⟩
  · have h := (if_neg hc).symm.trans h
    obtain ⟨v1, ev1, h⟩ := bd h
    have iv1 := gR_in hB (show 7 ≤ 11 from by decide) ev1
    obtain ⟨v3, M2, eM2, h⟩ := b2d h
    have w := oX11_one fu  v1 (a2 - (1 : Int32)) M hB iv1 eM2
    have hS := hS.tr w.1
    have hB := w.2
    by_cases hc : v3 = (13 : Int32)
    · have h := (if_pos hc).symm.trans h
      obtain rfl := Option.some.inj h
      exact ⟨hS, hB⟩
    · have h := (if_neg hc).symm.trans h
      obtain rfl := Option.some.inj h
      exact ⟨hS, hB⟩
theorem oX7_copyHead_L71 (fu : Nat) {out : Int32 × Mm} (k18 : Nat → Option Nat → Int32 → Int32 → Int32 → Mm → Option (Int32 × Mm)) (hk18 : ∀ (b0 : Nat) (b1 : Option Nat) (b2 : Int32) (b3 : Int32) (b4 : Int32)  (M : Mm), Bd RX TX M → RX b0 → inR RX b1 → k18 b0 b1 b2 b3 b4 M = some out → Sm RX M out.2 ∧ Bd RX TX out.2) (a0 : Nat) (a1 : Option Nat) (a2 : Int32) (a3 : Int32) (a4 : Int32)  (M : Mm) (hB : Bd RX TX M) (ra0 : RX a0) (ia1 : inR RX a1) (h : fX7_copyHead_L71 fu k18 a0 a1 a2 a3 a4 M = some out) : Sm RX M out.2 ∧ Bd RX TX out.2 := by
  unfold fX7_copyHead_L71 at h
  have hS : Sm RX M M := Sm.rf
  have z := hk18 a0 a1 a2 a3 (a4 + (1 : Int32)) M hB ra0 ia1 h
  exact ⟨hS.tr z.1, z.2⟩
theorem oX7_copyHead_L18 (fu : Nat) {out : Int32 × Mm}   : ∀ (n : Nat) (a0 : Nat) (a1 : Option Nat) (a2 : Int32) (a3 : Int32) (a4 : Int32)  (M : Mm), Bd RX TX M → RX a0 → inR RX a1 → fX7_copyHead_L18 fu  n a0 a1 a2 a3 a4 M = some out → Sm RX M out.2 ∧ Bd RX TX out.2 := by
  intro n
  induction n with
  | zero =>
    intro a0 a1 a2 a3 a4 M hB ra0 ia1 h
    have h : (none : Option (Int32 × Mm)) = some out := h
    cases h
  | succ n ih =>
    intro a0 a1 a2 a3 a4 M hB ra0 ia1 h
    rw [fX7_copyHead_L18] at h
    have hS : Sm RX M M := Sm.rf
    by_cases hc : a2 ≤ a4
    · have h := (if_pos hc).symm.trans h
      obtain rfl := Option.some.inj h
      exact ⟨hS, hB⟩
    · have h := (if_neg hc).symm.trans h
      obtain ⟨v1, ev1, h⟩ := bd h
      have iv1 := gR_in hB (show 7 ≤ 11 from by decide) ev1
      obtain ⟨q2, eq2, h⟩ := bd h
      have rq2 := rc_in hB (show 0 ≤ 11 from by decide) eq2
      obtain ⟨v4, M3, eM3, h⟩ := b2d h
      have w := oX0_peek fu q2 a4 M hB rq2 eM3
      have hS := hS.tr w.1
      have hB := w.2
      obtain ⟨M5, eM5, h⟩ := bd h
      have w := pA_ownB hB iv1 eM5
      have hS := hS.tr w.1
      have hB := w.2
      obtain ⟨v6, ev6, h⟩ := bd h
      have iv6 := gR_in hB (show 7 ≤ 11 from by decide) ev6
      obtain ⟨v7, ev7, h⟩ := bd h
      by_cases hc : v7 = (10 : Int32)
      · have h := (if_pos hc).symm.trans h
        obtain ⟨q8, eq8, h⟩ := bd h
        have rq8 := rc_in hB (show 7 ≤ 11 from by decide) eq8
        obtain ⟨v10, M9, eM9, h⟩ := b2d h
        have w := oX7_lineEnd fu q8 a3 a4 M5 hB rq8 eM9
        have hS := hS.tr w.1
        have hB := w.2
        by_cases hc : v10 = a3
        · have h := (if_pos hc).symm.trans h
          obtain rfl := Option.some.inj h
          exact ⟨hS, hB⟩
        · have h := (if_neg hc).symm.trans h
          have z := oX7_copyHead_L71 fu (fun b0 b1 b2 b3 b4 M => fX7_copyHead_L18 fu  n b0 b1 b2 b3 b4 M) ih a0 a1 a2 (a4 + (1 : Int32)) a4 M9 hB ra0 ia1 h
          exact ⟨hS.tr z.1, z.2⟩
      · have h := (if_neg hc).symm.trans h
        have z := oX7_copyHead_L71 fu (fun b0 b1 b2 b3 b4 M => fX7_copyHead_L18 fu  n b0 b1 b2 b3 b4 M) ih a0 a1 a2 a3 a4 M5 hB ra0 ia1 h
        exact ⟨hS.tr z.1, z.2⟩
theorem oX7_copyHead (fu : Nat)   (a0 : Nat) (a1 : Option Nat)  (M : Mm) {out : Int32 × Mm} (hB : Bd RX TX M) (ra0 : RX a0) (ia1 : inR RX a1) (h : fX7_copyHead fu  a0 a1 M = some out) : Sm RX M out.2 ∧ Bd RX TX out.2 := by
  unfold fX7_copyHead at h
  have hS : Sm RX M M := Sm.rf
  obtain ⟨q1, eq1, h⟩ := bd h
  have rq1 := rc_in hB (show 0 ≤ 11 from by decide) eq1
  obtain ⟨v3, M2, eM2, h⟩ := b2d h
  have w := oX0_held fu q1  M hB rq1 eM2
  have hS := hS.tr w.1
  have hB := w.2
  obtain ⟨v4, ev4, h⟩ := bd h
  have iv4 := gR_in hB (show 7 ≤ 11 from by decide) ev4
  obtain ⟨v5, ev5, h⟩ := bd h
  have z := oX7_copyHead_L18 fu   fu a0 a1 (jmin v3 v5) (0 : Int32) (0 : Int32) M2 hB ra0 ia1 h
  exact ⟨hS.tr z.1, z.2⟩
theorem oX7_forget (fu : Nat)   (a0 : Nat)  (M : Mm) {out : Mm} (hB : Bd RX TX M) (ra0 : RX a0) (h : fX7_forget fu  a0 M = some out) : Sm RX M out ∧ Bd RX TX out := by
  unfold fX7_forget at h
  have hS : Sm RX M M := Sm.rf
  obtain ⟨M1, eM1, h⟩ := bd h
  have w := pF_own hB (show 7 ≤ 11 from by decide) eM1
  have hS := hS.tr w.1
  have hB := w.2
  obtain ⟨M2, eM2, h⟩ := bd h
  have w := pZ_own hB (show 7 ≤ 11 from by decide) eM2
  have hS := hS.tr w.1
  have hB := w.2
  obtain ⟨M3, eM3, h⟩ := bd h
  have w := pF_own hB (show 7 ≤ 11 from by decide) eM3
  have hS := hS.tr w.1
  have hB := w.2
  obtain ⟨M4, eM4, h⟩ := bd h
  have w := pF_own hB (show 7 ≤ 11 from by decide) eM4
  have hS := hS.tr w.1
  have hB := w.2
  obtain ⟨M5, eM5, h⟩ := bd h
  have w := pF_own hB (show 7 ≤ 11 from by decide) eM5
  have hS := hS.tr w.1
  have hB := w.2
  obtain ⟨M6, eM6, h⟩ := bd h
  have w := pF_own hB (show 7 ≤ 11 from by decide) eM6
  have hS := hS.tr w.1
  have hB := w.2
  obtain ⟨M7, eM7, h⟩ := bd h
  have w := pF_own hB (show 7 ≤ 11 from by decide) eM7
  have hS := hS.tr w.1
  have hB := w.2
  obtain ⟨M8, eM8, h⟩ := bd h
  have w := pZ_own hB (show 7 ≤ 11 from by decide) eM8
  have hS := hS.tr w.1
  have hB := w.2
  obtain ⟨M9, eM9, h⟩ := bd h
  have w := pZ_own hB (show 7 ≤ 11 from by decide) eM9
  have hS := hS.tr w.1
  have hB := w.2
  obtain ⟨M10, eM10, h⟩ := bd h
  have w := pF_own hB (show 7 ≤ 11 from by decide) eM10
  have hS := hS.tr w.1
  have hB := w.2
  obtain rfl := Option.some.inj h
  exact ⟨hS, hB⟩
theorem oX7_isText_L15 (fu : Nat) {out : Int32 × Mm}   : ∀ (n : Nat) (a0 : Nat) (a1 : Int32) (a3 : Option Nat) (a4 : Int32)  (M : Mm), Bd RX TX M → RX a0 → fX7_isText_L15 fu  n a0 a1 a3 a4 M = some out → Sm RX M out.2 ∧ Bd RX TX out.2 := by
  intro n
  induction n with
  | zero =>
    intro a0 a1 a3 a4 M hB ra0 h
    have h : (none : Option (Int32 × Mm)) = some out := h
    cases h
  | succ n ih =>
    intro a0 a1 a3 a4 M hB ra0 h
    rw [fX7_isText_L15] at h
    have hS : Sm RX M M := Sm.rf
    obtain ⟨q1, eq1, h⟩ := bd h
    obtain ⟨v3, M2, eM2, h⟩ := b2d h
    have w := oJ0_length_8abf5 fu q1  M hB  eM2
    have hS := hS.tr w.1
    have hB := w.2
    by_cases hc : v3 ≤ a4
    · have h := (if_pos hc).symm.trans h
      obtain ⟨hz, rfl⟩ := rN_some h
      exact ⟨hS, hB⟩
    · have h := (if_neg hc).symm.trans h
      obtain ⟨v4, ev4, h⟩ := bd h
      have iv4 := gR_in hB (show 7 ≤ 11 from by decide) ev4
      obtain ⟨v6, M5, eM5, h⟩ := b2d h
      have w := oX11_one fu  v4 (a1 + a4) M2 hB iv4 eM5
      have hS := hS.tr w.1
      have hB := w.2
      obtain ⟨q7, eq7, h⟩ := bd h
      obtain ⟨v9, M8, eM8, h⟩ := b2d h
      have w := oJ0_charAt_5068e fu q7 a4 M5 hB  eM8
      have hS := hS.tr w.1
      have hB := w.2
      by_cases hc : v6 = v9
      · have h := (if_pos hc).symm.trans h
        have z := ih a0 a1 a3 (a4 + (1 : Int32)) M8 hB ra0 h
        exact ⟨hS.tr z.1, z.2⟩
      · have h := (if_neg hc).symm.trans h
        obtain ⟨hz, rfl⟩ := rN_some h
        exact ⟨hS, hB⟩
theorem oX7_isText (fu : Nat)   (a0 : Nat) (a1 : Int32) (a2 : Int32) (a3 : Option Nat)  (M : Mm) {out : Int32 × Mm} (hB : Bd RX TX M) (ra0 : RX a0) (h : fX7_isText fu  a0 a1 a2 a3 M = some out) : Sm RX M out.2 ∧ Bd RX TX out.2 := by
  unfold fX7_isText at h
  have hS : Sm RX M M := Sm.rf
  obtain ⟨q1, eq1, h⟩ := bd h
  obtain ⟨v3, M2, eM2, h⟩ := b2d h
  have w := oJ0_length_8abf5 fu q1  M hB  eM2
  have hS := hS.tr w.1
  have hB := w.2
  by_cases hc : (a2 - a1) = v3
  · have h := (if_pos hc).symm.trans h
    have z := oX7_isText_L15 fu   fu a0 a1 a3 (0 : Int32) M2 hB ra0 h
    exact ⟨hS.tr z.1, z.2⟩
  · have h := (if_neg hc).symm.trans h
    obtain ⟨hz, rfl⟩ := rN_some h
    exact ⟨hS, hB⟩
theorem oX7_readRequestLine_L160 (fu : Nat)   (a0 : Nat) (a2 : Int32) (a3 : Int32) (s0 : Option Nat) (s1 : Int32) (M : Mm) {out : Int32 × Mm} (hB : Bd RX TX M) (ra0 : RX a0) (is0 : inR RX s0) (h : fX7_readRequestLine_L160 fu  a0 a2 a3 s0 s1 M = some out) : Sm RX M out.2 ∧ Bd RX TX out.2 := by
  unfold fX7_readRequestLine_L160 at h
  have hS : Sm RX M M := Sm.rf
  obtain ⟨M1, eM1, h⟩ := bd h
  have w := pZ_own hB (show 7 ≤ 11 from by decide) eM1
  have hS := hS.tr w.1
  have hB := w.2
  obtain ⟨M2, eM2, h⟩ := bd h
  have w := pF_own hB (show 7 ≤ 11 from by decide) eM2
  have hS := hS.tr w.1
  have hB := w.2
  obtain ⟨M3, eM3, h⟩ := bd h
  have w := pF_own hB (show 7 ≤ 11 from by decide) eM3
  have hS := hS.tr w.1
  have hB := w.2
  obtain ⟨q4, eq4, h⟩ := bd h
  have rq4 := rc_in hB (show 7 ≤ 11 from by decide) eq4
  obtain ⟨v6, M5, eM5, h⟩ := b2d h
  have w := oX7_isText fu q4 (0 : Int32) a2 (some 2) M3 hB rq4 eM5
  have hS := hS.tr w.1
  have hB := w.2
  by_cases hc : v6 = 0
  · have h := (if_pos hc).symm.trans h
    obtain ⟨q7, eq7, h⟩ := bd h
    have rq7 := rc_in hB (show 7 ≤ 11 from by decide) eq7
    obtain ⟨v9, M8, eM8, h⟩ := b2d h
    have w := oX7_isText fu q7 (0 : Int32) a2 (some 3) M5 hB rq7 eM8
    have hS := hS.tr w.1
    have hB := w.2
    by_cases hc : v9 = 0
    · have h := (if_pos hc).symm.trans h
      obtain ⟨M10, eM10, h⟩ := bd h
      have w := pF_own hB (show 7 ≤ 11 from by decide) eM10
      have hS := hS.tr w.1
      have hB := w.2
      obtain ⟨hz, rfl⟩ := rN_some h
      exact ⟨hS, hB⟩
    · have h := (if_neg hc).symm.trans h
      obtain ⟨M11, eM11, h⟩ := bd h
      have w := pF_own hB (show 7 ≤ 11 from by decide) eM11
      have hS := hS.tr w.1
      have hB := w.2
      obtain ⟨hz, rfl⟩ := rN_some h
      exact ⟨hS, hB⟩
  · have h := (if_neg hc).symm.trans h
    obtain ⟨M12, eM12, h⟩ := bd h
    have w := pF_own hB (show 7 ≤ 11 from by decide) eM12
    have hS := hS.tr w.1
    have hB := w.2
    obtain ⟨hz, rfl⟩ := rN_some h
    exact ⟨hS, hB⟩
theorem oX7_readRequestLine_L149 (fu : Nat)   (a0 : Nat) (a2 : Int32) (a3 : Int32) (a4 : Int32)  (M : Mm) {out : Int32 × Mm} (hB : Bd RX TX M) (ra0 : RX a0) (h : fX7_readRequestLine_L149 fu  a0 a2 a3 a4 M = some out) : Sm RX M out.2 ∧ Bd RX TX out.2 := by
  unfold fX7_readRequestLine_L149 at h
  have hS : Sm RX M M := Sm.rf
  by_cases hc : a4 = 0
  · have h := (if_pos hc).symm.trans h
    have z := oX7_readRequestLine_L160 fu   a0 a2 a3 (some a0) (1 : Int32) M hB ra0 (inR_some ra0) h
    exact ⟨hS.tr z.1, z.2⟩
  · have h := (if_neg hc).symm.trans h
    have z := oX7_readRequestLine_L160 fu   a0 a2 a3 (some a0) (0 : Int32) M hB ra0 (inR_some ra0) h
    exact ⟨hS.tr z.1, z.2⟩
theorem oX7_readRequestLine_L80 (fu : Nat)   (a0 : Nat) (a1 : Int32) (a2 : Int32) (a3 : Int32)  (M : Mm) {out : Int32 × Mm} (hB : Bd RX TX M) (ra0 : RX a0) (h : fX7_readRequestLine_L80 fu  a0 a1 a2 a3 M = some out) : Sm RX M out.2 ∧ Bd RX TX out.2 := by
  unfold fX7_readRequestLine_L80 at h
  have hS : Sm RX M M := Sm.rf
  by_cases hc : a2 < (1 : Int32)
  · have h := (if_pos hc).symm.trans h
    obtain ⟨hz, rfl⟩ := rN_some h
    exact ⟨hS, hB⟩
  · have h := (if_neg hc).symm.trans h
    by_cases hc : (16 : Int32) < a2
    · have h := (if_pos hc).symm.trans h
      obtain ⟨hz, rfl⟩ := rN_some h
      exact ⟨hS, hB⟩
    · have h := (if_neg hc).symm.trans h
      obtain ⟨v1, ev1, h⟩ := bd h
      have iv1 := gR_in hB (show 7 ≤ 11 from by decide) ev1
      obtain ⟨v3, M2, eM2, h⟩ := b2d h
      have w := oX11_one fu  v1 a2 M hB iv1 eM2
      have hS := hS.tr w.1
      have hB := w.2
      by_cases hc : v3 = (32 : Int32)
      · have h := (if_pos hc).symm.trans h
        obtain ⟨v4, ev4, h⟩ := bd h
        have iv4 := gR_in hB (show 7 ≤ 11 from by decide) ev4
        obtain ⟨v6, M5, eM5, h⟩ := b2d h
        have w := oX11_one fu  v4 (a2 + (1 : Int32)) M2 hB iv4 eM5
        have hS := hS.tr w.1
        have hB := w.2
        by_cases hc : v6 = (47 : Int32)
        · have h := (if_pos hc).symm.trans h
          obtain ⟨q7, eq7, h⟩ := bd h
          have rq7 := rc_in hB (show 7 ≤ 11 from by decide) eq7
          obtain ⟨v9, M8, eM8, h⟩ := b2d h
          have w := oX7_isText fu q7 a3 a1 (some 0) M5 hB rq7 eM8
          have hS := hS.tr w.1
          have hB := w.2
          by_cases hc : v9 = 0
          · have h := (if_pos hc).symm.trans h
            obtain ⟨q10, eq10, h⟩ := bd h
            have rq10 := rc_in hB (show 7 ≤ 11 from by decide) eq10
            obtain ⟨v12, M11, eM11, h⟩ := b2d h
            have w := oX7_isText fu q10 a3 a1 (some 1) M8 hB rq10 eM11
            have hS := hS.tr w.1
            have hB := w.2
            by_cases hc : v12 = 0
            · have h := (if_pos hc).symm.trans h
              obtain ⟨hz, rfl⟩ := rN_some h
              exact ⟨hS, hB⟩
            · have h := (if_neg hc).symm.trans h
              have z := oX7_readRequestLine_L149 fu   a0 a2 a3 v9 M11 hB ra0 h
              exact ⟨hS.tr z.1, z.2⟩
          · have h := (if_neg hc).symm.trans h
            have z := oX7_readRequestLine_L149 fu   a0 a2 a3 v9 M8 hB ra0 h
            exact ⟨hS.tr z.1, z.2⟩
        · have h := (if_neg hc).symm.trans h
          obtain ⟨hz, rfl⟩ := rN_some h
          exact ⟨hS, hB⟩
      · have h := (if_neg hc).symm.trans h
        obtain ⟨hz, rfl⟩ := rN_some h
        exact ⟨hS, hB⟩
theorem oX7_readRequestLine_L43 (fu : Nat) {out : Int32 × Mm}   : ∀ (n : Nat) (a0 : Nat) (a1 : Int32) (a2 : Int32) (a3 : Int32)  (M : Mm), Bd RX TX M → RX a0 → fX7_readRequestLine_L43 fu  n a0 a1 a2 a3 M = some out → Sm RX M out.2 ∧ Bd RX TX out.2 := by
  intro n
  induction n with
  | zero =>
    intro a0 a1 a2 a3 M hB ra0 h
    have h : (none : Option (Int32 × Mm)) = some out := h
    cases h
  | succ n ih =>
    intro a0 a1 a2 a3 M hB ra0 h
    rw [fX7_readRequestLine_L43] at h
    have hS : Sm RX M M := Sm.rf
    by_cases hc : a1 ≤ a3
    · have h := (if_pos hc).symm.trans h
      have z := oX7_readRequestLine_L80 fu   a0 a1 a2 a3 M hB ra0 h
      exact ⟨hS.tr z.1, z.2⟩
    · have h := (if_neg hc).symm.trans h
      obtain ⟨v1, ev1, h⟩ := bd h
      have iv1 := gR_in hB (show 7 ≤ 11 from by decide) ev1
      obtain ⟨v3, M2, eM2, h⟩ := b2d h
      have w := oX11_one fu  v1 a3 M hB iv1 eM2
      have hS := hS.tr w.1
      have hB := w.2
      by_cases hc : v3 ≤ (32 : Int32)
      · have h := (if_pos hc).symm.trans h
        have z := oX7_readRequestLine_L80 fu   a0 a1 a2 a3 M2 hB ra0 h
        exact ⟨hS.tr z.1, z.2⟩
      · have h := (if_neg hc).symm.trans h
        obtain ⟨v4, ev4, h⟩ := bd h
        have iv4 := gR_in hB (show 7 ≤ 11 from by decide) ev4
        obtain ⟨v6, M5, eM5, h⟩ := b2d h
        have w := oX11_one fu  v4 a3 M2 hB iv4 eM5
        have hS := hS.tr w.1
        have hB := w.2
        by_cases hc : (127 : Int32) ≤ v6
        · have h := (if_pos hc).symm.trans h
          have z := oX7_readRequestLine_L80 fu   a0 a1 a2 a3 M5 hB ra0 h
          exact ⟨hS.tr z.1, z.2⟩
        · have h := (if_neg hc).symm.trans h
          have z := ih a0 a1 a2 (a3 + (1 : Int32)) M5 hB ra0 h
          exact ⟨hS.tr z.1, z.2⟩
theorem oX7_readRequestLine_L39 (fu : Nat)   (a0 : Nat) (a1 : Int32) (a2 : Int32)  (M : Mm) {out : Int32 × Mm} (hB : Bd RX TX M) (ra0 : RX a0) (h : fX7_readRequestLine_L39 fu  a0 a1 a2 M = some out) : Sm RX M out.2 ∧ Bd RX TX out.2 := by
  unfold fX7_readRequestLine_L39 at h
  have hS : Sm RX M M := Sm.rf
  have z := oX7_readRequestLine_L43 fu   fu a0 a1 a2 (a2 + (1 : Int32)) M hB ra0 h
  exact ⟨hS.tr z.1, z.2⟩
theorem oX7_readRequestLine_L2 (fu : Nat) {out : Int32 × Mm}   : ∀ (n : Nat) (a0 : Nat) (a1 : Int32) (a2 : Int32)  (M : Mm), Bd RX TX M → RX a0 → fX7_readRequestLine_L2 fu  n a0 a1 a2 M = some out → Sm RX M out.2 ∧ Bd RX TX out.2 := by
  intro n
  induction n with
  | zero =>
    intro a0 a1 a2 M hB ra0 h
    have h : (none : Option (Int32 × Mm)) = some out := h
    cases h
  | succ n ih =>
    intro a0 a1 a2 M hB ra0 h
    rw [fX7_readRequestLine_L2] at h
    have hS : Sm RX M M := Sm.rf
    by_cases hc : a1 ≤ a2
    · have h := (if_pos hc).symm.trans h
      have z := oX7_readRequestLine_L39 fu   a0 a1 a2 M hB ra0 h
      exact ⟨hS.tr z.1, z.2⟩
    · have h := (if_neg hc).symm.trans h
      obtain ⟨v1, ev1, h⟩ := bd h
      have iv1 := gR_in hB (show 7 ≤ 11 from by decide) ev1
      obtain ⟨v3, M2, eM2, h⟩ := b2d h
      have w := oX11_one fu  v1 a2 M hB iv1 eM2
      have hS := hS.tr w.1
      have hB := w.2
      by_cases hc : v3 < (65 : Int32)
      · have h := (if_pos hc).symm.trans h
        have z := oX7_readRequestLine_L39 fu   a0 a1 a2 M2 hB ra0 h
        exact ⟨hS.tr z.1, z.2⟩
      · have h := (if_neg hc).symm.trans h
        obtain ⟨v4, ev4, h⟩ := bd h
        have iv4 := gR_in hB (show 7 ≤ 11 from by decide) ev4
        obtain ⟨v6, M5, eM5, h⟩ := b2d h
        have w := oX11_one fu  v4 a2 M2 hB iv4 eM5
        have hS := hS.tr w.1
        have hB := w.2
        by_cases hc : (90 : Int32) < v6
        · have h := (if_pos hc).symm.trans h
          have z := oX7_readRequestLine_L39 fu   a0 a1 a2 M5 hB ra0 h
          exact ⟨hS.tr z.1, z.2⟩
        · have h := (if_neg hc).symm.trans h
          have z := ih a0 a1 (a2 + (1 : Int32)) M5 hB ra0 h
          exact ⟨hS.tr z.1, z.2⟩
theorem oX7_readRequestLine (fu : Nat)   (a0 : Nat) (a1 : Int32)  (M : Mm) {out : Int32 × Mm} (hB : Bd RX TX M) (ra0 : RX a0) (h : fX7_readRequestLine fu  a0 a1 M = some out) : Sm RX M out.2 ∧ Bd RX TX out.2 := by
  unfold fX7_readRequestLine at h
  have hS : Sm RX M M := Sm.rf
  have z := oX7_readRequestLine_L2 fu   fu a0 a1 (0 : Int32) M hB ra0 h
  exact ⟨hS.tr z.1, z.2⟩
theorem oJ1_canEncode_9a6ad {R T : Nat → Prop} (fu : Nat)   (a0 : Int32)  (M : Mm) {out : Int32 × Mm} (hB : Bd R T M)  (h : fJ1_canEncode_9a6ad fu  a0 M = some out) : Sm R M out.2 ∧ Bd R T out.2 := by
  unfold fJ1_canEncode_9a6ad at h
  have hS : Sm R M M := Sm.rf
  by_cases hc : a0 < 0
  · have h := (if_pos hc).symm.trans h
    obtain ⟨hz, rfl⟩ := rN_some h
    exact ⟨hS, hB⟩
  · have h := (if_neg hc).symm.trans h
    by_cases hc : (255 : Int32) < a0
    · have h := (if_pos hc).symm.trans h
      obtain ⟨hz, rfl⟩ := rN_some h
      exact ⟨hS, hB⟩
    · have h := (if_neg hc).symm.trans h
      obtain ⟨hz, rfl⟩ := rN_some h
      exact ⟨hS, hB⟩
theorem oJ1_indexOfChar_4cfef_L7 {R T : Nat → Prop} (fu : Nat) {out : Int32 × Mm}   : ∀ (n : Nat) (a0 : Option Nat) (a3 : Int32) (a4 : Int32) (a5 : Int32)  (M : Mm), Bd R T M → fJ1_indexOfChar_4cfef_L7 fu  n a0 a3 a4 a5 M = some out → Sm R M out.2 ∧ Bd R T out.2 := by
  intro n
  induction n with
  | zero =>
    intro a0 a3 a4 a5 M hB  h
    have h : (none : Option (Int32 × Mm)) = some out := h
    cases h
  | succ n ih =>
    intro a0 a3 a4 a5 M hB  h
    rw [fJ1_indexOfChar_4cfef_L7] at h
    have hS : Sm R M M := Sm.rf
    by_cases hc : a3 ≤ a5
    · have h := (if_pos hc).symm.trans h
      obtain rfl := Option.some.inj h
      exact ⟨hS, hB⟩
    · have h := (if_neg hc).symm.trans h
      obtain ⟨v1, ev1, h⟩ := bd h
      by_cases hc : v1 = a4
      · have h := (if_pos hc).symm.trans h
        obtain rfl := Option.some.inj h
        exact ⟨hS, hB⟩
      · have h := (if_neg hc).symm.trans h
        have z := ih a0 a3 a4 (a5 + (1 : Int32)) M hB  h
        exact ⟨hS.tr z.1, z.2⟩
theorem oJ1_indexOfChar_4cfef {R T : Nat → Prop} (fu : Nat)   (a0 : Option Nat) (a1 : Int32) (a2 : Int32) (a3 : Int32)  (M : Mm) {out : Int32 × Mm} (hB : Bd R T M)  (h : fJ1_indexOfChar_4cfef fu  a0 a1 a2 a3 M = some out) : Sm R M out.2 ∧ Bd R T out.2 := by
  unfold fJ1_indexOfChar_4cfef at h
  have hS : Sm R M M := Sm.rf
  have z := oJ1_indexOfChar_4cfef_L7 fu   fu a0 a3 (Int8.toInt32 (Int32.toInt8 a1)) a2 M hB  h
  exact ⟨hS.tr z.1, z.2⟩
theorem oJ1_indexOf_4cfef {R T : Nat → Prop} (fu : Nat)   (a0 : Option Nat) (a1 : Int32) (a2 : Int32) (a3 : Int32)  (M : Mm) {out : Int32 × Mm} (hB : Bd R T M)  (h : fJ1_indexOf_4cfef fu  a0 a1 a2 a3 M = some out) : Sm R M out.2 ∧ Bd R T out.2 := by
  unfold fJ1_indexOf_4cfef at h
  have hS : Sm R M M := Sm.rf
  obtain ⟨v2, M1, eM1, h⟩ := b2d h
  have w := oJ1_canEncode_9a6ad fu  a1 M hB  eM1
  have hS := hS.tr w.1
  have hB := w.2
  by_cases hc : v2 = 0
  · have h := (if_pos hc).symm.trans h
    obtain rfl := Option.some.inj h
    exact ⟨hS, hB⟩
  · have h := (if_neg hc).symm.trans h
    obtain ⟨v3, ev3, h⟩ := bd h
    by_cases hc : (jmax a2 (0 : Int32)) < (jmin a3 v3)
    · have h := (if_pos hc).symm.trans h
      obtain ⟨v5, M4, eM4, h⟩ := b2d h
      have w := oJ1_indexOfChar_4cfef fu  a0 a1 (jmax a2 (0 : Int32)) (jmin a3 v3) M1 hB  eM4
      have hS := hS.tr w.1
      have hB := w.2
      obtain rfl := Option.some.inj h
      exact ⟨hS, hB⟩
    · have h := (if_neg hc).symm.trans h
      obtain rfl := Option.some.inj h
      exact ⟨hS, hB⟩
theorem oJ3_checkFromToIndex_8c36e_L14 {R T : Nat → Prop} (fu : Nat)   (a0 : Int32) (a1 : Int32) (a2 : Int32) (a3 : Option Nat)  (M : Mm) {out : Int32 × Mm} (hB : Bd R T M)  (h : fJ3_checkFromToIndex_8c36e_L14 fu  a0 a1 a2 a3 M = some out) : Sm R M out.2 ∧ Bd R T out.2 := by
  unfold fJ3_checkFromToIndex_8c36e_L14 at h
  have hS : Sm R M M := Sm.rf
  cases h
theorem oJ3_checkFromToIndex_8c36e {R T : Nat → Prop} (fu : Nat)   (a0 : Int32) (a1 : Int32) (a2 : Int32) (a3 : Option Nat)  (M : Mm) {out : Int32 × Mm} (hB : Bd R T M)  (h : fJ3_checkFromToIndex_8c36e fu  a0 a1 a2 a3 M = some out) : Sm R M out.2 ∧ Bd R T out.2 := by
  unfold fJ3_checkFromToIndex_8c36e at h
  have hS : Sm R M M := Sm.rf
  by_cases hc : a0 < 0
  · have h := (if_pos hc).symm.trans h
    have z := oJ3_checkFromToIndex_8c36e_L14 fu   a0 a1 a2 a3 M hB  h
    exact ⟨hS.tr z.1, z.2⟩
  · have h := (if_neg hc).symm.trans h
    by_cases hc : a1 < a0
    · have h := (if_pos hc).symm.trans h
      have z := oJ3_checkFromToIndex_8c36e_L14 fu   a0 a1 a2 a3 M hB  h
      exact ⟨hS.tr z.1, z.2⟩
    · have h := (if_neg hc).symm.trans h
      by_cases hc : a1 ≤ a2
      · have h := (if_pos hc).symm.trans h
        obtain rfl := Option.some.inj h
        exact ⟨hS, hB⟩
      · have h := (if_neg hc).symm.trans h
        have z := oJ3_checkFromToIndex_8c36e_L14 fu   a0 a1 a2 a3 M hB  h
        exact ⟨hS.tr z.1, z.2⟩
theorem oJ0_checkBoundsBeginEnd_23922 {R T : Nat → Prop} (fu : Nat)   (a0 : Int32) (a1 : Int32) (a2 : Int32)  (M : Mm) {out : Mm} (hB : Bd R T M)  (h : fJ0_checkBoundsBeginEnd_23922 fu  a0 a1 a2 M = some out) : Sm R M out ∧ Bd R T out := by
  unfold fJ0_checkBoundsBeginEnd_23922 at h
  have hS : Sm R M M := Sm.rf
  obtain ⟨v2, M1, eM1, h⟩ := b2d h
  have w := oJ3_checkFromToIndex_8c36e fu  a0 a1 a2 none M hB  eM1
  have hS := hS.tr w.1
  have hB := w.2
  obtain rfl := Option.some.inj h
  exact ⟨hS, hB⟩
theorem oJ2_checkBoundsBeginEnd_d044e {R T : Nat → Prop} (fu : Nat)   (a0 : Int32) (a1 : Int32) (a2 : Option Nat)  (M : Mm) {out : Mm} (hB : Bd R T M)  (h : fJ2_checkBoundsBeginEnd_d044e fu  a0 a1 a2 M = some out) : Sm R M out ∧ Bd R T out := by
  unfold fJ2_checkBoundsBeginEnd_d044e at h
  have hS : Sm R M M := Sm.rf
  obtain ⟨v2, M1, eM1, h⟩ := b2d h
  have w := oJ2_length_9d52b fu  a2 M hB  eM1
  have hS := hS.tr w.1
  have hB := w.2
  obtain ⟨M3, eM3, h⟩ := bd h
  have w := oJ0_checkBoundsBeginEnd_23922 fu  a0 a1 v2 M1 hB  eM3
  have hS := hS.tr w.1
  have hB := w.2
  obtain rfl := Option.some.inj h
  exact ⟨hS, hB⟩
theorem oJ2_indexOfCharUnsafe_4cfef_L3 {R T : Nat → Prop} (fu : Nat) {out : Int32 × Mm}   : ∀ (n : Nat) (a0 : Option Nat) (a1 : Int32) (a3 : Int32) (a4 : Int32)  (M : Mm), Bd R T M → fJ2_indexOfCharUnsafe_4cfef_L3 fu  n a0 a1 a3 a4 M = some out → Sm R M out.2 ∧ Bd R T out.2 := by
  intro n
  induction n with
  | zero =>
    intro a0 a1 a3 a4 M hB  h
    have h : (none : Option (Int32 × Mm)) = some out := h
    cases h
  | succ n ih =>
    intro a0 a1 a3 a4 M hB  h
    rw [fJ2_indexOfCharUnsafe_4cfef_L3] at h
    have hS : Sm R M M := Sm.rf
    by_cases hc : a3 ≤ a4
    · have h := (if_pos hc).symm.trans h
      obtain rfl := Option.some.inj h
      exact ⟨hS, hB⟩
    · have h := (if_neg hc).symm.trans h
      cases h
theorem oJ2_indexOfCharUnsafe_4cfef {R T : Nat → Prop} (fu : Nat)   (a0 : Option Nat) (a1 : Int32) (a2 : Int32) (a3 : Int32)  (M : Mm) {out : Int32 × Mm} (hB : Bd R T M)  (h : fJ2_indexOfCharUnsafe_4cfef fu  a0 a1 a2 a3 M = some out) : Sm R M out.2 ∧ Bd R T out.2 := by
  unfold fJ2_indexOfCharUnsafe_4cfef at h
  have hS : Sm R M M := Sm.rf
  have z := oJ2_indexOfCharUnsafe_4cfef_L3 fu   fu a0 a1 a3 a2 M hB  h
  exact ⟨hS.tr z.1, z.2⟩
theorem oJ2_indexOfChar_4cfef {R T : Nat → Prop} (fu : Nat)   (a0 : Option Nat) (a1 : Int32) (a2 : Int32) (a3 : Int32)  (M : Mm) {out : Int32 × Mm} (hB : Bd R T M)  (h : fJ2_indexOfChar_4cfef fu  a0 a1 a2 a3 M = some out) : Sm R M out.2 ∧ Bd R T out.2 := by
  unfold fJ2_indexOfChar_4cfef at h
  have hS : Sm R M M := Sm.rf
  obtain ⟨M1, eM1, h⟩ := bd h
  have w := oJ2_checkBoundsBeginEnd_d044e fu  a2 a3 a0 M hB  eM1
  have hS := hS.tr w.1
  have hB := w.2
  obtain ⟨v3, M2, eM2, h⟩ := b2d h
  have w := oJ2_indexOfCharUnsafe_4cfef fu  a0 a1 a2 a3 M1 hB  eM2
  have hS := hS.tr w.1
  have hB := w.2
  obtain rfl := Option.some.inj h
  exact ⟨hS, hB⟩
theorem oJ11_isValidCodePoint_9a6ad {R T : Nat → Prop} (fu : Nat)   (a0 : Int32)  (M : Mm) {out : Int32 × Mm} (hB : Bd R T M)  (h : fJ11_isValidCodePoint_9a6ad fu  a0 M = some out) : Sm R M out.2 ∧ Bd R T out.2 := by
  unfold fJ11_isValidCodePoint_9a6ad at h
  have hS : Sm R M M := Sm.rf
  by_cases hc : (17 : Int32) ≤ (ushr a0 (16 : Int32))
  · have h := (if_pos hc).symm.trans h
    obtain ⟨hz, rfl⟩ := rN_some h
    exact ⟨hS, hB⟩
  · have h := (if_neg hc).symm.trans h
    obtain ⟨hz, rfl⟩ := rN_some h
    exact ⟨hS, hB⟩
theorem oJ11_highSurrogate_5068e {R T : Nat → Prop} (fu : Nat)   (a0 : Int32)  (M : Mm) {out : Int32 × Mm} (hB : Bd R T M)  (h : fJ11_highSurrogate_5068e fu  a0 M = some out) : Sm R M out.2 ∧ Bd R T out.2 := by
  unfold fJ11_highSurrogate_5068e at h
  have hS : Sm R M M := Sm.rf
  obtain ⟨hz, rfl⟩ := rN_some h
  exact ⟨hS, hB⟩
theorem oJ11_lowSurrogate_5068e {R T : Nat → Prop} (fu : Nat)   (a0 : Int32)  (M : Mm) {out : Int32 × Mm} (hB : Bd R T M)  (h : fJ11_lowSurrogate_5068e fu  a0 M = some out) : Sm R M out.2 ∧ Bd R T out.2 := by
  unfold fJ11_lowSurrogate_5068e at h
  have hS : Sm R M M := Sm.rf
  obtain ⟨hz, rfl⟩ := rN_some h
  exact ⟨hS, hB⟩
theorem oJ2_indexOfSupplementary_4cfef_L63 {R T : Nat → Prop} (fu : Nat) {out : Int32 × Mm} (k28 : Option Nat → Int32 → Int32 → Int32 → Int32 → Mm → Option (Int32 × Mm)) (hk28 : ∀ (b0 : Option Nat) (b3 : Int32) (b4 : Int32) (b5 : Int32) (b6 : Int32)  (M : Mm), Bd R T M → k28 b0 b3 b4 b5 b6 M = some out → Sm R M out.2 ∧ Bd R T out.2) (a0 : Option Nat) (a3 : Int32) (a4 : Int32) (a5 : Int32) (a6 : Int32)  (M : Mm) (hB : Bd R T M)  (h : fJ2_indexOfSupplementary_4cfef_L63 fu k28 a0 a3 a4 a5 a6 M = some out) : Sm R M out.2 ∧ Bd R T out.2 := by
  unfold fJ2_indexOfSupplementary_4cfef_L63 at h
  have hS : Sm R M M := Sm.rf
  have z := hk28 a0 a3 a4 a5 (a6 + (1 : Int32)) M hB  h
  exact ⟨hS.tr z.1, z.2⟩
theorem oJ2_indexOfSupplementary_4cfef_L28 {R T : Nat → Prop} (fu : Nat) {out : Int32 × Mm}   : ∀ (n : Nat) (a0 : Option Nat) (a3 : Int32) (a4 : Int32) (a5 : Int32) (a6 : Int32)  (M : Mm), Bd R T M → fJ2_indexOfSupplementary_4cfef_L28 fu  n a0 a3 a4 a5 a6 M = some out → Sm R M out.2 ∧ Bd R T out.2 := by
  intro n
  induction n with
  | zero =>
    intro a0 a3 a4 a5 a6 M hB  h
    have h : (none : Option (Int32 × Mm)) = some out := h
    cases h
  | succ n ih =>
    intro a0 a3 a4 a5 a6 M hB  h
    rw [fJ2_indexOfSupplementary_4cfef_L28] at h
    have hS : Sm R M M := Sm.rf
    by_cases hc : (a3 - (1 : Int32)) ≤ a6
    · have h := (if_pos hc).symm.trans h
      obtain rfl := Option.some.inj h
      exact ⟨hS, hB⟩
    · have h := (if_neg hc).symm.trans h
      cases h
theorem oJ2_indexOfSupplementary_4cfef {R T : Nat → Prop} (fu : Nat)   (a0 : Option Nat) (a1 : Int32) (a2 : Int32) (a3 : Int32)  (M : Mm) {out : Int32 × Mm} (hB : Bd R T M)  (h : fJ2_indexOfSupplementary_4cfef fu  a0 a1 a2 a3 M = some out) : Sm R M out.2 ∧ Bd R T out.2 := by
  unfold fJ2_indexOfSupplementary_4cfef at h
  have hS : Sm R M M := Sm.rf
  obtain ⟨v2, M1, eM1, h⟩ := b2d h
  have w := oJ11_isValidCodePoint_9a6ad fu  a1 M hB  eM1
  have hS := hS.tr w.1
  have hB := w.2
  by_cases hc : v2 = 0
  · have h := (if_pos hc).symm.trans h
    obtain rfl := Option.some.inj h
    exact ⟨hS, hB⟩
  · have h := (if_neg hc).symm.trans h
    obtain ⟨v4, M3, eM3, h⟩ := b2d h
    have w := oJ11_highSurrogate_5068e fu  a1 M1 hB  eM3
    have hS := hS.tr w.1
    have hB := w.2
    obtain ⟨v6, M5, eM5, h⟩ := b2d h
    have w := oJ11_lowSurrogate_5068e fu  a1 M3 hB  eM5
    have hS := hS.tr w.1
    have hB := w.2
    obtain ⟨M7, eM7, h⟩ := bd h
    have w := oJ2_checkBoundsBeginEnd_d044e fu  a2 a3 a0 M5 hB  eM7
    have hS := hS.tr w.1
    have hB := w.2
    have z := oJ2_indexOfSupplementary_4cfef_L28 fu   fu a0 a3 v4 v6 a2 M7 hB  h
    exact ⟨hS.tr z.1, z.2⟩
theorem oJ2_indexOf_4cfef {R T : Nat → Prop} (fu : Nat)   (a0 : Option Nat) (a1 : Int32) (a2 : Int32) (a3 : Int32)  (M : Mm) {out : Int32 × Mm} (hB : Bd R T M)  (h : fJ2_indexOf_4cfef fu  a0 a1 a2 a3 M = some out) : Sm R M out.2 ∧ Bd R T out.2 := by
  unfold fJ2_indexOf_4cfef at h
  have hS : Sm R M M := Sm.rf
  obtain ⟨v1, ev1, h⟩ := bd h
  by_cases hc : (jmax a2 (0 : Int32)) < (jmin a3 (v1 >>> ((1 : Int32) &&& 31)))
  · have h := (if_pos hc).symm.trans h
    by_cases hc : (65536 : Int32) ≤ a1
    · have h := (if_pos hc).symm.trans h
      obtain ⟨v3, M2, eM2, h⟩ := b2d h
      have w := oJ2_indexOfSupplementary_4cfef fu  a0 a1 (jmax a2 (0 : Int32)) (jmin a3 (v1 >>> ((1 : Int32) &&& 31))) M hB  eM2
      have hS := hS.tr w.1
      have hB := w.2
      obtain rfl := Option.some.inj h
      exact ⟨hS, hB⟩
    · have h := (if_neg hc).symm.trans h
      obtain ⟨v5, M4, eM4, h⟩ := b2d h
      have w := oJ2_indexOfChar_4cfef fu  a0 a1 (jmax a2 (0 : Int32)) (jmin a3 (v1 >>> ((1 : Int32) &&& 31))) M hB  eM4
      have hS := hS.tr w.1
      have hB := w.2
      obtain rfl := Option.some.inj h
      exact ⟨hS, hB⟩
  · have h := (if_neg hc).symm.trans h
    obtain rfl := Option.some.inj h
    exact ⟨hS, hB⟩
theorem oJ0_indexOf_7cf53 {R T : Nat → Prop} (fu : Nat)   (a0 : Nat) (a1 : Int32) (a2 : Int32)  (M : Mm) {out : Int32 × Mm} (hB : Bd R T M)  (h : fJ0_indexOf_7cf53 fu  a0 a1 a2 M = some out) : Sm R M out.2 ∧ Bd R T out.2 := by
  unfold fJ0_indexOf_7cf53 at h
  have hS : Sm R M M := Sm.rf
  obtain ⟨q1, eq1, h⟩ := bd h
  obtain ⟨v3, M2, eM2, h⟩ := b2d h
  have w := oJ0_isLatin1_aae02 fu q1  M hB  eM2
  have hS := hS.tr w.1
  have hB := w.2
  by_cases hc : v3 = 0
  · have h := (if_pos hc).symm.trans h
    obtain ⟨v4, ev4, h⟩ := bd h
    obtain ⟨q5, eq5, h⟩ := bd h
    obtain ⟨v7, M6, eM6, h⟩ := b2d h
    have w := oJ0_length_8abf5 fu q5  M2 hB  eM6
    have hS := hS.tr w.1
    have hB := w.2
    obtain ⟨v9, M8, eM8, h⟩ := b2d h
    have w := oJ2_indexOf_4cfef fu  v4 a1 a2 v7 M6 hB  eM8
    have hS := hS.tr w.1
    have hB := w.2
    obtain rfl := Option.some.inj h
    exact ⟨hS, hB⟩
  · have h := (if_neg hc).symm.trans h
    obtain ⟨v10, ev10, h⟩ := bd h
    obtain ⟨q11, eq11, h⟩ := bd h
    obtain ⟨v13, M12, eM12, h⟩ := b2d h
    have w := oJ0_length_8abf5 fu q11  M2 hB  eM12
    have hS := hS.tr w.1
    have hB := w.2
    obtain ⟨v15, M14, eM14, h⟩ := b2d h
    have w := oJ1_indexOf_4cfef fu  v10 a1 a2 v13 M12 hB  eM14
    have hS := hS.tr w.1
    have hB := w.2
    obtain rfl := Option.some.inj h
    exact ⟨hS, hB⟩
theorem oJ0_indexOf_0f7a4 {R T : Nat → Prop} (fu : Nat)   (a0 : Nat) (a1 : Int32)  (M : Mm) {out : Int32 × Mm} (hB : Bd R T M)  (h : fJ0_indexOf_0f7a4 fu  a0 a1 M = some out) : Sm R M out.2 ∧ Bd R T out.2 := by
  unfold fJ0_indexOf_0f7a4 at h
  have hS : Sm R M M := Sm.rf
  obtain ⟨q1, eq1, h⟩ := bd h
  obtain ⟨v3, M2, eM2, h⟩ := b2d h
  have w := oJ0_indexOf_7cf53 fu q1 a1 (0 : Int32) M hB  eM2
  have hS := hS.tr w.1
  have hB := w.2
  obtain rfl := Option.some.inj h
  exact ⟨hS, hB⟩
theorem oX7_isNameCode_L38 (fu : Nat)   (a0 : Int32)  (M : Mm) {out : Int32 × Mm} (hB : Bd RX TX M)  (h : fX7_isNameCode_L38 fu  a0 M = some out) : Sm RX M out.2 ∧ Bd RX TX out.2 := by
  unfold fX7_isNameCode_L38 at h
  have hS : Sm RX M M := Sm.rf
  by_cases hc : (128 : Int32) ≤ a0
  · have h := (if_pos hc).symm.trans h
    obtain ⟨hz, rfl⟩ := rN_some h
    exact ⟨hS, hB⟩
  · have h := (if_neg hc).symm.trans h
    obtain ⟨q1, eq1, h⟩ := bd h
    obtain ⟨v3, M2, eM2, h⟩ := b2d h
    have w := oJ0_indexOf_0f7a4 fu q1 (i2c a0) M hB  eM2
    have hS := hS.tr w.1
    have hB := w.2
    by_cases hc : v3 < 0
    · have h := (if_pos hc).symm.trans h
      obtain ⟨hz, rfl⟩ := rN_some h
      exact ⟨hS, hB⟩
    · have h := (if_neg hc).symm.trans h
      obtain ⟨hz, rfl⟩ := rN_some h
      exact ⟨hS, hB⟩
theorem oX7_isNameCode_L24 (fu : Nat)   (a0 : Int32)  (M : Mm) {out : Int32 × Mm} (hB : Bd RX TX M)  (h : fX7_isNameCode_L24 fu  a0 M = some out) : Sm RX M out.2 ∧ Bd RX TX out.2 := by
  unfold fX7_isNameCode_L24 at h
  have hS : Sm RX M M := Sm.rf
  by_cases hc : a0 < (48 : Int32)
  · have h := (if_pos hc).symm.trans h
    have z := oX7_isNameCode_L38 fu   a0 M hB  h
    exact ⟨hS.tr z.1, z.2⟩
  · have h := (if_neg hc).symm.trans h
    by_cases hc : (57 : Int32) < a0
    · have h := (if_pos hc).symm.trans h
      have z := oX7_isNameCode_L38 fu   a0 M hB  h
      exact ⟨hS.tr z.1, z.2⟩
    · have h := (if_neg hc).symm.trans h
      obtain ⟨hz, rfl⟩ := rN_some h
      exact ⟨hS, hB⟩
theorem oX7_isNameCode_L12 (fu : Nat)   (a0 : Int32)  (M : Mm) {out : Int32 × Mm} (hB : Bd RX TX M)  (h : fX7_isNameCode_L12 fu  a0 M = some out) : Sm RX M out.2 ∧ Bd RX TX out.2 := by
  unfold fX7_isNameCode_L12 at h
  have hS : Sm RX M M := Sm.rf
  by_cases hc : a0 < (65 : Int32)
  · have h := (if_pos hc).symm.trans h
    have z := oX7_isNameCode_L24 fu   a0 M hB  h
    exact ⟨hS.tr z.1, z.2⟩
  · have h := (if_neg hc).symm.trans h
    by_cases hc : a0 ≤ (90 : Int32)
    · have h := (if_pos hc).symm.trans h
      obtain ⟨hz, rfl⟩ := rN_some h
      exact ⟨hS, hB⟩
    · have h := (if_neg hc).symm.trans h
      have z := oX7_isNameCode_L24 fu   a0 M hB  h
      exact ⟨hS.tr z.1, z.2⟩
theorem oX7_isNameCode (fu : Nat)   (a0 : Int32)  (M : Mm) {out : Int32 × Mm} (hB : Bd RX TX M)  (h : fX7_isNameCode fu  a0 M = some out) : Sm RX M out.2 ∧ Bd RX TX out.2 := by
  unfold fX7_isNameCode at h
  have hS : Sm RX M M := Sm.rf
  by_cases hc : a0 < (97 : Int32)
  · have h := (if_pos hc).symm.trans h
    have z := oX7_isNameCode_L12 fu   a0 M hB  h
    exact ⟨hS.tr z.1, z.2⟩
  · have h := (if_neg hc).symm.trans h
    by_cases hc : a0 ≤ (122 : Int32)
    · have h := (if_pos hc).symm.trans h
      obtain ⟨hz, rfl⟩ := rN_some h
      exact ⟨hS, hB⟩
    · have h := (if_neg hc).symm.trans h
      have z := oX7_isNameCode_L12 fu   a0 M hB  h
      exact ⟨hS.tr z.1, z.2⟩
theorem oX7_isBlank (fu : Nat)   (a0 : Int32)  (M : Mm) {out : Int32 × Mm} (hB : Bd RX TX M)  (h : fX7_isBlank fu  a0 M = some out) : Sm RX M out.2 ∧ Bd RX TX out.2 := by
  unfold fX7_isBlank at h
  have hS : Sm RX M M := Sm.rf
  by_cases hc : a0 = (32 : Int32)
  · have h := (if_pos hc).symm.trans h
    obtain ⟨hz, rfl⟩ := rN_some h
    exact ⟨hS, hB⟩
  · have h := (if_neg hc).symm.trans h
    by_cases hc : a0 = (9 : Int32)
    · have h := (if_pos hc).symm.trans h
      obtain ⟨hz, rfl⟩ := rN_some h
      exact ⟨hS, hB⟩
    · have h := (if_neg hc).symm.trans h
      obtain ⟨hz, rfl⟩ := rN_some h
      exact ⟨hS, hB⟩
theorem oX7_isWord_L61 (fu : Nat) {out : Int32 × Mm} (k15 : Nat → Int32 → Option Nat → Int32 → Mm → Option (Int32 × Mm)) (hk15 : ∀ (b0 : Nat) (b1 : Int32) (b3 : Option Nat) (b4 : Int32)  (M : Mm), Bd RX TX M → RX b0 → k15 b0 b1 b3 b4 M = some out → Sm RX M out.2 ∧ Bd RX TX out.2) (a0 : Nat) (a1 : Int32) (a3 : Option Nat) (a4 : Int32) (s0 : Int32) (M : Mm) (hB : Bd RX TX M) (ra0 : RX a0) (h : fX7_isWord_L61 fu k15 a0 a1 a3 a4 s0 M = some out) : Sm RX M out.2 ∧ Bd RX TX out.2 := by
  unfold fX7_isWord_L61 at h
  have hS : Sm RX M M := Sm.rf
  obtain ⟨q1, eq1, h⟩ := bd h
  obtain ⟨v3, M2, eM2, h⟩ := b2d h
  have w := oJ0_charAt_5068e fu q1 a4 M hB  eM2
  have hS := hS.tr w.1
  have hB := w.2
  by_cases hc : s0 = v3
  · have h := (if_pos hc).symm.trans h
    have z := hk15 a0 a1 a3 (a4 + (1 : Int32)) M2 hB ra0 h
    exact ⟨hS.tr z.1, z.2⟩
  · have h := (if_neg hc).symm.trans h
    obtain ⟨hz, rfl⟩ := rN_some h
    exact ⟨hS, hB⟩
theorem oX7_isWord_L59 (fu : Nat) {out : Int32 × Mm} (k15 : Nat → Int32 → Option Nat → Int32 → Mm → Option (Int32 × Mm)) (hk15 : ∀ (b0 : Nat) (b1 : Int32) (b3 : Option Nat) (b4 : Int32)  (M : Mm), Bd RX TX M → RX b0 → k15 b0 b1 b3 b4 M = some out → Sm RX M out.2 ∧ Bd RX TX out.2) (a0 : Nat) (a1 : Int32) (a3 : Option Nat) (a4 : Int32) (a5 : Int32)  (M : Mm) (hB : Bd RX TX M) (ra0 : RX a0) (h : fX7_isWord_L59 fu k15 a0 a1 a3 a4 a5 M = some out) : Sm RX M out.2 ∧ Bd RX TX out.2 := by
  unfold fX7_isWord_L59 at h
  have hS : Sm RX M M := Sm.rf
  have z := oX7_isWord_L61 fu k15 hk15 a0 a1 a3 a4 a5 M hB ra0 h
  exact ⟨hS.tr z.1, z.2⟩
theorem oX7_isWord_L15 (fu : Nat) {out : Int32 × Mm}   : ∀ (n : Nat) (a0 : Nat) (a1 : Int32) (a3 : Option Nat) (a4 : Int32)  (M : Mm), Bd RX TX M → RX a0 → fX7_isWord_L15 fu  n a0 a1 a3 a4 M = some out → Sm RX M out.2 ∧ Bd RX TX out.2 := by
  intro n
  induction n with
  | zero =>
    intro a0 a1 a3 a4 M hB ra0 h
    have h : (none : Option (Int32 × Mm)) = some out := h
    cases h
  | succ n ih =>
    intro a0 a1 a3 a4 M hB ra0 h
    rw [fX7_isWord_L15] at h
    have hS : Sm RX M M := Sm.rf
    obtain ⟨q1, eq1, h⟩ := bd h
    obtain ⟨v3, M2, eM2, h⟩ := b2d h
    have w := oJ0_length_8abf5 fu q1  M hB  eM2
    have hS := hS.tr w.1
    have hB := w.2
    by_cases hc : v3 ≤ a4
    · have h := (if_pos hc).symm.trans h
      obtain ⟨hz, rfl⟩ := rN_some h
      exact ⟨hS, hB⟩
    · have h := (if_neg hc).symm.trans h
      obtain ⟨v4, ev4, h⟩ := bd h
      have iv4 := gR_in hB (show 7 ≤ 11 from by decide) ev4
      obtain ⟨v6, M5, eM5, h⟩ := b2d h
      have w := oX11_one fu  v4 (a1 + a4) M2 hB iv4 eM5
      have hS := hS.tr w.1
      have hB := w.2
      by_cases hc : v6 < (65 : Int32)
      · have h := (if_pos hc).symm.trans h
        have z := oX7_isWord_L59 fu (fun b0 b1 b3 b4 M => fX7_isWord_L15 fu  n b0 b1 b3 b4 M) ih a0 a1 a3 a4 v6 M5 hB ra0 h
        exact ⟨hS.tr z.1, z.2⟩
      · have h := (if_neg hc).symm.trans h
        by_cases hc : (90 : Int32) < v6
        · have h := (if_pos hc).symm.trans h
          have z := oX7_isWord_L59 fu (fun b0 b1 b3 b4 M => fX7_isWord_L15 fu  n b0 b1 b3 b4 M) ih a0 a1 a3 a4 v6 M5 hB ra0 h
          exact ⟨hS.tr z.1, z.2⟩
        · have h := (if_neg hc).symm.trans h
          have z := oX7_isWord_L61 fu (fun b0 b1 b3 b4 M => fX7_isWord_L15 fu  n b0 b1 b3 b4 M) ih a0 a1 a3 a4 (v6 + (32 : Int32)) M5 hB ra0 h
          exact ⟨hS.tr z.1, z.2⟩
theorem oX7_isWord (fu : Nat)   (a0 : Nat) (a1 : Int32) (a2 : Int32) (a3 : Option Nat)  (M : Mm) {out : Int32 × Mm} (hB : Bd RX TX M) (ra0 : RX a0) (h : fX7_isWord fu  a0 a1 a2 a3 M = some out) : Sm RX M out.2 ∧ Bd RX TX out.2 := by
  unfold fX7_isWord at h
  have hS : Sm RX M M := Sm.rf
  obtain ⟨q1, eq1, h⟩ := bd h
  obtain ⟨v3, M2, eM2, h⟩ := b2d h
  have w := oJ0_length_8abf5 fu q1  M hB  eM2
  have hS := hS.tr w.1
  have hB := w.2
  by_cases hc : (a2 - a1) = v3
  · have h := (if_pos hc).symm.trans h
    have z := oX7_isWord_L15 fu   fu a0 a1 a3 (0 : Int32) M2 hB ra0 h
    exact ⟨hS.tr z.1, z.2⟩
  · have h := (if_neg hc).symm.trans h
    obtain ⟨hz, rfl⟩ := rN_some h
    exact ⟨hS, hB⟩
theorem oX7_decimal_L20 (fu : Nat) {out : Int32 × Mm}   : ∀ (n : Nat) (a0 : Nat) (a2 : Int32) (a3 : Int32) (a4 : Int32)  (M : Mm), Bd RX TX M → RX a0 → fX7_decimal_L20 fu  n a0 a2 a3 a4 M = some out → Sm RX M out.2 ∧ Bd RX TX out.2 := by
  intro n
  induction n with
  | zero =>
    intro a0 a2 a3 a4 M hB ra0 h
    have h : (none : Option (Int32 × Mm)) = some out := h
    cases h
  | succ n ih =>
    intro a0 a2 a3 a4 M hB ra0 h
    rw [fX7_decimal_L20] at h
    have hS : Sm RX M M := Sm.rf
    by_cases hc : a2 ≤ a4
    · have h := (if_pos hc).symm.trans h
      obtain rfl := Option.some.inj h
      exact ⟨hS, hB⟩
    · have h := (if_neg hc).symm.trans h
      obtain ⟨v1, ev1, h⟩ := bd h
      have iv1 := gR_in hB (show 7 ≤ 11 from by decide) ev1
      obtain ⟨v3, M2, eM2, h⟩ := b2d h
      have w := oX11_one fu  v1 a4 M hB iv1 eM2
      have hS := hS.tr w.1
      have hB := w.2
      by_cases hc : (v3 - (48 : Int32)) < 0
      · have h := (if_pos hc).symm.trans h
        obtain rfl := Option.some.inj h
        exact ⟨hS, hB⟩
      · have h := (if_neg hc).symm.trans h
        by_cases hc : (v3 - (48 : Int32)) ≤ (9 : Int32)
        · have h := (if_pos hc).symm.trans h
          obtain ⟨v4, ev4, h⟩ := bd h
          have z := ih a0 a2 v4 (a4 + (1 : Int32)) M2 hB ra0 h
          exact ⟨hS.tr z.1, z.2⟩
        · have h := (if_neg hc).symm.trans h
          obtain rfl := Option.some.inj h
          exact ⟨hS, hB⟩
theorem oX7_decimal (fu : Nat)   (a0 : Nat) (a1 : Int32) (a2 : Int32)  (M : Mm) {out : Int32 × Mm} (hB : Bd RX TX M) (ra0 : RX a0) (h : fX7_decimal fu  a0 a1 a2 M = some out) : Sm RX M out.2 ∧ Bd RX TX out.2 := by
  unfold fX7_decimal at h
  have hS : Sm RX M M := Sm.rf
  by_cases hc : a2 ≤ a1
  · have h := (if_pos hc).symm.trans h
    obtain rfl := Option.some.inj h
    exact ⟨hS, hB⟩
  · have h := (if_neg hc).symm.trans h
    by_cases hc : (a2 - a1) ≤ (9 : Int32)
    · have h := (if_pos hc).symm.trans h
      have z := oX7_decimal_L20 fu   fu a0 a2 (0 : Int32) a1 M hB ra0 h
      exact ⟨hS.tr z.1, z.2⟩
    · have h := (if_neg hc).symm.trans h
      obtain rfl := Option.some.inj h
      exact ⟨hS, hB⟩
theorem oX7_noteWords_L110 (fu : Nat) {out : Mm} (k5 : Nat → Int32 → Int32 → Int32 → Mm → Option (Mm)) (hk5 : ∀ (b0 : Nat) (b2 : Int32) (b3 : Int32) (b4 : Int32)  (M : Mm), Bd RX TX M → RX b0 → k5 b0 b2 b3 b4 M = some out → Sm RX M out ∧ Bd RX TX out) (a0 : Nat) (a2 : Int32) (a3 : Int32) (a4 : Int32)  (M : Mm) (hB : Bd RX TX M) (ra0 : RX a0) (h : fX7_noteWords_L110 fu k5 a0 a2 a3 a4 M = some out) : Sm RX M out ∧ Bd RX TX out := by
  unfold fX7_noteWords_L110 at h
  have hS : Sm RX M M := Sm.rf
  have z := hk5 a0 a2 a3 (a4 + (1 : Int32)) M hB ra0 h
  exact ⟨hS.tr z.1, z.2⟩
theorem oX7_noteWords_L102 (fu : Nat) {out : Mm} (k5 : Nat → Int32 → Int32 → Int32 → Mm → Option (Mm)) (hk5 : ∀ (b0 : Nat) (b2 : Int32) (b3 : Int32) (b4 : Int32)  (M : Mm), Bd RX TX M → RX b0 → k5 b0 b2 b3 b4 M = some out → Sm RX M out ∧ Bd RX TX out) (a0 : Nat) (a2 : Int32) (a4 : Int32) (s0 : Option Nat) (s1 : Int32) (M : Mm) (hB : Bd RX TX M) (ra0 : RX a0) (is0 : inR RX s0) (h : fX7_noteWords_L102 fu k5 a0 a2 a4 s0 s1 M = some out) : Sm RX M out ∧ Bd RX TX out := by
  unfold fX7_noteWords_L102 at h
  have hS : Sm RX M M := Sm.rf
  obtain ⟨M1, eM1, h⟩ := bd h
  have w := pZ_own hB (show 7 ≤ 11 from by decide) eM1
  have hS := hS.tr w.1
  have hB := w.2
  have z := oX7_noteWords_L110 fu k5 hk5 a0 a2 (a4 + (1 : Int32)) a4 M1 hB ra0 h
  exact ⟨hS.tr z.1, z.2⟩
theorem oX7_noteWords_L97 (fu : Nat) {out : Mm} (k5 : Nat → Int32 → Int32 → Int32 → Mm → Option (Mm)) (hk5 : ∀ (b0 : Nat) (b2 : Int32) (b3 : Int32) (b4 : Int32)  (M : Mm), Bd RX TX M → RX b0 → k5 b0 b2 b3 b4 M = some out → Sm RX M out ∧ Bd RX TX out) (a0 : Nat) (a2 : Int32) (a4 : Int32) (s0 : Option Nat) (M : Mm) (hB : Bd RX TX M) (ra0 : RX a0) (is0 : inR RX s0) (h : fX7_noteWords_L97 fu k5 a0 a2 a4 s0 M = some out) : Sm RX M out ∧ Bd RX TX out := by
  unfold fX7_noteWords_L97 at h
  have hS : Sm RX M M := Sm.rf
  have z := oX7_noteWords_L102 fu k5 hk5 a0 a2 a4 s0 (1 : Int32) M hB ra0 is0 h
  exact ⟨hS.tr z.1, z.2⟩
theorem oX7_noteWords_L74 (fu : Nat) {out : Mm} (k5 : Nat → Int32 → Int32 → Int32 → Mm → Option (Mm)) (hk5 : ∀ (b0 : Nat) (b2 : Int32) (b3 : Int32) (b4 : Int32)  (M : Mm), Bd RX TX M → RX b0 → k5 b0 b2 b3 b4 M = some out → Sm RX M out ∧ Bd RX TX out) (a0 : Nat) (a2 : Int32) (a3 : Int32) (a4 : Int32) (s0 : Option Nat) (s1 : Int32) (M : Mm) (hB : Bd RX TX M) (ra0 : RX a0) (is0 : inR RX s0) (h : fX7_noteWords_L74 fu k5 a0 a2 a3 a4 s0 s1 M = some out) : Sm RX M out ∧ Bd RX TX out := by
  unfold fX7_noteWords_L74 at h
  have hS : Sm RX M M := Sm.rf
  obtain ⟨M1, eM1, h⟩ := bd h
  have w := pZ_own hB (show 7 ≤ 11 from by decide) eM1
  have hS := hS.tr w.1
  have hB := w.2
  obtain ⟨v2, ev2, h⟩ := bd h
  by_cases hc : v2 = 0
  · have h := (if_pos hc).symm.trans h
    obtain ⟨q3, eq3, h⟩ := bd h
    have rq3 := rc_in hB (show 7 ≤ 11 from by decide) eq3
    obtain ⟨v5, M4, eM4, h⟩ := b2d h
    have w := oX7_isWord fu q3 a3 a4 (some 11) M1 hB rq3 eM4
    have hS := hS.tr w.1
    have hB := w.2
    by_cases hc : v5 = 0
    · have h := (if_pos hc).symm.trans h
      have z := oX7_noteWords_L102 fu k5 hk5 a0 a2 a4 (some a0) (0 : Int32) M4 hB ra0 (inR_some ra0) h
      exact ⟨hS.tr z.1, z.2⟩
    · have h := (if_neg hc).symm.trans h
      have z := oX7_noteWords_L97 fu k5 hk5 a0 a2 a4 (some a0) M4 hB ra0 (inR_some ra0) h
      exact ⟨hS.tr z.1, z.2⟩
  · have h := (if_neg hc).symm.trans h
    have z := oX7_noteWords_L97 fu k5 hk5 a0 a2 a4 (some a0) M1 hB ra0 (inR_some ra0) h
    exact ⟨hS.tr z.1, z.2⟩
theorem oX7_noteWords_L69 (fu : Nat) {out : Mm} (k5 : Nat → Int32 → Int32 → Int32 → Mm → Option (Mm)) (hk5 : ∀ (b0 : Nat) (b2 : Int32) (b3 : Int32) (b4 : Int32)  (M : Mm), Bd RX TX M → RX b0 → k5 b0 b2 b3 b4 M = some out → Sm RX M out ∧ Bd RX TX out) (a0 : Nat) (a2 : Int32) (a3 : Int32) (a4 : Int32) (s0 : Option Nat) (M : Mm) (hB : Bd RX TX M) (ra0 : RX a0) (is0 : inR RX s0) (h : fX7_noteWords_L69 fu k5 a0 a2 a3 a4 s0 M = some out) : Sm RX M out ∧ Bd RX TX out := by
  unfold fX7_noteWords_L69 at h
  have hS : Sm RX M M := Sm.rf
  have z := oX7_noteWords_L74 fu k5 hk5 a0 a2 a3 a4 s0 (1 : Int32) M hB ra0 is0 h
  exact ⟨hS.tr z.1, z.2⟩
theorem oX7_noteWords_L49 (fu : Nat) {out : Mm} (k5 : Nat → Int32 → Int32 → Int32 → Mm → Option (Mm)) (hk5 : ∀ (b0 : Nat) (b2 : Int32) (b3 : Int32) (b4 : Int32)  (M : Mm), Bd RX TX M → RX b0 → k5 b0 b2 b3 b4 M = some out → Sm RX M out ∧ Bd RX TX out) (a0 : Nat) (a2 : Int32) (a3 : Int32) (a4 : Int32)  (M : Mm) (hB : Bd RX TX M) (ra0 : RX a0) (h : fX7_noteWords_L49 fu k5 a0 a2 a3 a4 M = some out) : Sm RX M out ∧ Bd RX TX out := by
  unfold fX7_noteWords_L49 at h
  have hS : Sm RX M M := Sm.rf
  obtain ⟨v1, ev1, h⟩ := bd h
  by_cases hc : v1 = 0
  · have h := (if_pos hc).symm.trans h
    obtain ⟨q2, eq2, h⟩ := bd h
    have rq2 := rc_in hB (show 7 ≤ 11 from by decide) eq2
    obtain ⟨v4, M3, eM3, h⟩ := b2d h
    have w := oX7_isWord fu q2 a3 a4 (some 10) M hB rq2 eM3
    have hS := hS.tr w.1
    have hB := w.2
    by_cases hc : v4 = 0
    · have h := (if_pos hc).symm.trans h
      have z := oX7_noteWords_L74 fu k5 hk5 a0 a2 a3 a4 (some a0) (0 : Int32) M3 hB ra0 (inR_some ra0) h
      exact ⟨hS.tr z.1, z.2⟩
    · have h := (if_neg hc).symm.trans h
      have z := oX7_noteWords_L69 fu k5 hk5 a0 a2 a3 a4 (some a0) M3 hB ra0 (inR_some ra0) h
      exact ⟨hS.tr z.1, z.2⟩
  · have h := (if_neg hc).symm.trans h
    have z := oX7_noteWords_L69 fu k5 hk5 a0 a2 a3 a4 (some a0) M hB ra0 (inR_some ra0) h
    exact ⟨hS.tr z.1, z.2⟩
theorem oX7_noteWords_L5 (fu : Nat) {out : Mm}   : ∀ (n : Nat) (a0 : Nat) (a2 : Int32) (a3 : Int32) (a4 : Int32)  (M : Mm), Bd RX TX M → RX a0 → fX7_noteWords_L5 fu  n a0 a2 a3 a4 M = some out → Sm RX M out ∧ Bd RX TX out := by
  intro n
  induction n with
  | zero =>
    intro a0 a2 a3 a4 M hB ra0 h
    have h : (none : Option (Mm)) = some out := h
    cases h
  | succ n ih =>
    intro a0 a2 a3 a4 M hB ra0 h
    rw [fX7_noteWords_L5] at h
    have hS : Sm RX M M := Sm.rf
    by_cases hc : a2 < a4
    · have h := (if_pos hc).symm.trans h
      obtain rfl := Option.some.inj h
      exact ⟨hS, hB⟩
    · have h := (if_neg hc).symm.trans h
      by_cases hc : a2 ≤ a4
      · have h := (if_pos hc).symm.trans h
        have z := oX7_noteWords_L49 fu (fun b0 b2 b3 b4 M => fX7_noteWords_L5 fu  n b0 b2 b3 b4 M) ih a0 a2 a3 a4 M hB ra0 h
        exact ⟨hS.tr z.1, z.2⟩
      · have h := (if_neg hc).symm.trans h
        obtain ⟨v1, ev1, h⟩ := bd h
        have iv1 := gR_in hB (show 7 ≤ 11 from by decide) ev1
        obtain ⟨v3, M2, eM2, h⟩ := b2d h
        have w := oX11_one fu  v1 a4 M hB iv1 eM2
        have hS := hS.tr w.1
        have hB := w.2
        by_cases hc : v3 = (44 : Int32)
        · have h := (if_pos hc).symm.trans h
          have z := oX7_noteWords_L49 fu (fun b0 b2 b3 b4 M => fX7_noteWords_L5 fu  n b0 b2 b3 b4 M) ih a0 a2 a3 a4 M2 hB ra0 h
          exact ⟨hS.tr z.1, z.2⟩
        · have h := (if_neg hc).symm.trans h
          obtain ⟨v4, ev4, h⟩ := bd h
          have iv4 := gR_in hB (show 7 ≤ 11 from by decide) ev4
          obtain ⟨v6, M5, eM5, h⟩ := b2d h
          have w := oX11_one fu  v4 a4 M2 hB iv4 eM5
          have hS := hS.tr w.1
          have hB := w.2
          obtain ⟨v8, M7, eM7, h⟩ := b2d h
          have w := oX7_isBlank fu  v6 M5 hB  eM7
          have hS := hS.tr w.1
          have hB := w.2
          by_cases hc : v8 = 0
          · have h := (if_pos hc).symm.trans h
            have z := oX7_noteWords_L110 fu (fun b0 b2 b3 b4 M => fX7_noteWords_L5 fu  n b0 b2 b3 b4 M) ih a0 a2 a3 a4 M7 hB ra0 h
            exact ⟨hS.tr z.1, z.2⟩
          · have h := (if_neg hc).symm.trans h
            have z := oX7_noteWords_L49 fu (fun b0 b2 b3 b4 M => fX7_noteWords_L5 fu  n b0 b2 b3 b4 M) ih a0 a2 a3 a4 M7 hB ra0 h
            exact ⟨hS.tr z.1, z.2⟩
theorem oX7_noteWords (fu : Nat)   (a0 : Nat) (a1 : Int32) (a2 : Int32)  (M : Mm) {out : Mm} (hB : Bd RX TX M) (ra0 : RX a0) (h : fX7_noteWords fu  a0 a1 a2 M = some out) : Sm RX M out ∧ Bd RX TX out := by
  unfold fX7_noteWords at h
  have hS : Sm RX M M := Sm.rf
  have z := oX7_noteWords_L5 fu   fu a0 a2 a1 a1 M hB ra0 h
  exact ⟨hS.tr z.1, z.2⟩
