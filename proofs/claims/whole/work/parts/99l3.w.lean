/-! ===== what alone changes with its callers, printed by a program of ours ===== -/
theorem uwX16_alone_L27 (fu : Nat)   (a0 : Nat)  (M : Mm) {out : Mm} (hB : RW M) (ra0 : a0 = 323) (h : fX16_alone_L27 fu  a0 M = some out) : Zw M out ∧ RW out := by
  unfold fX16_alone_L27 at h
  have hS : Zw M M := Zw.rf
  obtain ⟨q1, eq1, h⟩ := bd h
  have rq1 := z_rc (z_some ra0) eq1
  obtain ⟨M2, eM2, h⟩ := bd h
  have w := z2w (zX16_reset fu q1  M hB rq1 eM2)
  have hS := hS.tr w.1
  have hB := w.2
  obtain rfl := Option.some.inj h
  exact ⟨hS, hB⟩
theorem uwX16_alone_L360 (fu : Nat) {out : Mm}   : ∀ (n : Nat) (a0 : Nat) (a1 : Option Nat) (a2 : Int32)  (M : Mm), RW M → a0 = 323 → fX16_alone_L360 fu  n a0 a1 a2 M = some out → Zw M out ∧ RW out := by
  intro n
  induction n with
  | zero =>
    intro a0 a1 a2 M hB ra0 h
    have h : (none : Option (Mm)) = some out := h
    cases h
  | succ n ih =>
    intro a0 a1 a2 M hB ra0 h
    rw [fX16_alone_L360] at h
    have hS : Zw M M := Zw.rf
    by_cases hc : (4096 : Int32) ≤ a2
    · have h := (if_pos hc).symm.trans h
      obtain ⟨q1, eq1, h⟩ := bd h
      have rq1 := z_rc (z_some ra0) eq1
      obtain ⟨M2, eM2, h⟩ := bd h
      have w := z2w (zX16_synAck fu q1 a1 M hB rq1 eM2)
      have hS := hS.tr w.1
      have hB := w.2
      obtain rfl := Option.some.inj h
      exact ⟨hS, hB⟩
    · have h := (if_neg hc).symm.trans h
      obtain ⟨v3, ev3, h⟩ := bd h
      obtain ⟨M4, eM4, h⟩ := bd h
      have w := z2w (z_pA hB (by decide) eM4)
      have hS := hS.tr w.1
      have hB := w.2
      have z := ih a0 a1 (a2 + (1 : Int32)) M4 hB ra0 h
      exact ⟨hS.tr z.1, z.2⟩
theorem uwX16_alone_L255 (fu : Nat)   (a0 : Nat) (a1 : Option Nat) (s0 : Option Nat) (s1 : Int32) (M : Mm) {out : Mm} (hB : RW M) (ra0 : a0 = 323) (h : fX16_alone_L255 fu  a0 a1 s0 s1 M = some out) : Zw M out ∧ RW out := by
  unfold fX16_alone_L255 at h
  have hS : Zw M M := Zw.rf
  obtain ⟨M1, eM1, h⟩ := bd h
  have w := z2w (z_pF hB eM1 (by decide))
  have hS := hS.tr w.1
  have hB := w.2
  obtain ⟨M2, eM2, h⟩ := bd h
  have w := z2w (z_pF hB eM2 (by decide))
  have hS := hS.tr w.1
  have hB := w.2
  obtain ⟨M3, eM3, h⟩ := bd h
  have w := z2w (z_pF hB eM3 (by decide))
  have hS := hS.tr w.1
  have hB := w.2
  obtain ⟨M4, eM4, h⟩ := bd h
  have w := z2w (z_pZ hB eM4 (by decide))
  have hS := hS.tr w.1
  have hB := w.2
  obtain ⟨M5, eM5, h⟩ := bd h
  have w := z2w (z_pZ hB eM5 (by decide))
  have hS := hS.tr w.1
  have hB := w.2
  obtain ⟨M6, eM6, h⟩ := bd h
  have w := z2w (z_pZ hB eM6 (by decide))
  have hS := hS.tr w.1
  have hB := w.2
  obtain ⟨M7, eM7, h⟩ := bd h
  have w := z2w (z_pZ hB eM7 (by decide))
  have hS := hS.tr w.1
  have hB := w.2
  obtain ⟨M8, eM8, h⟩ := bd h
  have w := z2w (z_pF hB eM8 (by decide))
  have hS := hS.tr w.1
  have hB := w.2
  obtain ⟨M9, eM9, h⟩ := bd h
  have w := z2w (z_pF hB eM9 (by decide))
  have hS := hS.tr w.1
  have hB := w.2
  obtain ⟨M10, eM10, h⟩ := bd h
  have w := z2w (z_pF hB eM10 (by decide))
  have hS := hS.tr w.1
  have hB := w.2
  obtain ⟨M11, eM11, h⟩ := bd h
  have w := z2w (z_pF hB eM11 (by decide))
  have hS := hS.tr w.1
  have hB := w.2
  obtain ⟨v12, ev12, h⟩ := bd h
  obtain ⟨M13, eM13, h⟩ := bd h
  have w := z2w (z_pF hB eM13 (by decide))
  have hS := hS.tr w.1
  have hB := w.2
  obtain ⟨M14, eM14, h⟩ := bd h
  have w := z2w (z_pZ hB eM14 (by decide))
  have hS := hS.tr w.1
  have hB := w.2
  obtain ⟨M15, eM15, h⟩ := bd h
  have w := z2w (z_pZ hB eM15 (by decide))
  have hS := hS.tr w.1
  have hB := w.2
  obtain ⟨M16, eM16, h⟩ := bd h
  have w := z2w (z_pF hB eM16 (by decide))
  have hS := hS.tr w.1
  have hB := w.2
  obtain ⟨M17, eM17, h⟩ := bd h
  have w := z2w (z_pZ hB eM17 (by decide))
  have hS := hS.tr w.1
  have hB := w.2
  obtain ⟨M18, eM18, h⟩ := bd h
  have w := z2w (z_pZ hB eM18 (by decide))
  have hS := hS.tr w.1
  have hB := w.2
  obtain ⟨M19, eM19, h⟩ := bd h
  have w := z2w (z_pZ hB eM19 (by decide))
  have hS := hS.tr w.1
  have hB := w.2
  obtain ⟨M20, eM20, h⟩ := bd h
  have w := z2w (z_pF hB eM20 (by decide))
  have hS := hS.tr w.1
  have hB := w.2
  have z := uwX16_alone_L360 fu   fu a0 a1 (0 : Int32) M20 hB ra0 h
  exact ⟨hS.tr z.1, z.2⟩
theorem uwX16_alone_L77 (fu : Nat) {out : Mm} (k54 : Nat → Option Nat → Int32 → Mm → Option (Mm)) (hk54 : ∀ (b0 : Nat) (b1 : Option Nat) (b2 : Int32)  (M : Mm), RW M → b0 = 323 → k54 b0 b1 b2 M = some out → Zw M out ∧ RW out) (a0 : Nat) (a1 : Option Nat) (a2 : Int32)  (M : Mm) (hB : RW M) (ra0 : a0 = 323) (h : fX16_alone_L77 fu k54 a0 a1 a2 M = some out) : Zw M out ∧ RW out := by
  unfold fX16_alone_L77 at h
  have hS : Zw M M := Zw.rf
  have z := hk54 a0 a1 (a2 + (-1 : Int32)) M hB ra0 h
  exact ⟨hS.tr z.1, z.2⟩
theorem uwX16_alone_L54 (fu : Nat) {out : Mm}   : ∀ (n : Nat) (a0 : Nat) (a1 : Option Nat) (a2 : Int32)  (M : Mm), RW M → a0 = 323 → fX16_alone_L54 fu  n a0 a1 a2 M = some out → Zw M out ∧ RW out := by
  intro n
  induction n with
  | zero =>
    intro a0 a1 a2 M hB ra0 h
    have h : (none : Option (Mm)) = some out := h
    cases h
  | succ n ih =>
    intro a0 a1 a2 M hB ra0 h
    rw [fX16_alone_L54] at h
    have hS : Zw M M := Zw.rf
    by_cases hc : a2 < 0
    · have h := (if_pos hc).symm.trans h
      by_cases hc : a1 = none
      · have h := (if_pos hc).symm.trans h
        obtain rfl := Option.some.inj h
        exact ⟨hS, hB⟩
      · have h := (if_neg hc).symm.trans h
        obtain ⟨v1, ev1, h⟩ := bd h
        obtain ⟨M2, eM2, h⟩ := bd h
        obtain ⟨v3, ev3, h⟩ := bd h
        obtain ⟨v4, ev4, h⟩ := bd h
        obtain ⟨M5, eM5, h⟩ := bd h
        have w := w_pair hB ra0 ev1 eM2 ev3 ev4 eM5
        have hS := hS.tr w.1
        have hB := w.2
        obtain ⟨M6, eM6, h⟩ := bd h
        have w := z2w (z_pF hB eM6 (by decide))
        have hS := hS.tr w.1
        have hB := w.2
        obtain ⟨v7, ev7, h⟩ := bd h
        obtain ⟨M8, eM8, h⟩ := bd h
        have w := w_pF hB eM8 (by decide)
        have hS := hS.tr w.1
        have hB := w.2
        obtain ⟨v9, ev9, h⟩ := bd h
        obtain ⟨M10, eM10, h⟩ := bd h
        have w := w_pF hB eM10 (by decide)
        have hS := hS.tr w.1
        have hB := w.2
        obtain ⟨v11, ev11, h⟩ := bd h
        obtain ⟨M12, eM12, h⟩ := bd h
        have w := z2w (z_pF hB eM12 (by decide))
        have hS := hS.tr w.1
        have hB := w.2
        obtain ⟨v13, ev13, h⟩ := bd h
        obtain ⟨M14, eM14, h⟩ := bd h
        have w := z2w (z_pF hB eM14 (by decide))
        have hS := hS.tr w.1
        have hB := w.2
        obtain ⟨v15, ev15, h⟩ := bd h
        obtain ⟨M16, eM16, h⟩ := bd h
        have w := z2w (z_pF hB eM16 (by decide))
        have hS := hS.tr w.1
        have hB := w.2
        obtain ⟨v17, ev17, h⟩ := bd h
        obtain ⟨v18, ev18, h⟩ := bd h
        obtain ⟨M19, eM19, h⟩ := bd h
        have w := z2w (z_pF hB eM19 (by decide))
        have hS := hS.tr w.1
        have hB := w.2
        obtain ⟨v20, ev20, h⟩ := bd h
        obtain ⟨M21, eM21, h⟩ := bd h
        have w := z2w (z_pF hB eM21 (by decide))
        have hS := hS.tr w.1
        have hB := w.2
        obtain ⟨v22, ev22, h⟩ := bd h
        obtain ⟨M23, eM23, h⟩ := bd h
        have w := z2w (z_pF hB eM23 (by decide))
        have hS := hS.tr w.1
        have hB := w.2
        obtain ⟨v24, ev24, h⟩ := bd h
        obtain ⟨M25, eM25, h⟩ := bd h
        have w := z2w (z_pF hB eM25 (by decide))
        have hS := hS.tr w.1
        have hB := w.2
        obtain ⟨v26, ev26, h⟩ := bd h
        obtain ⟨M27, eM27, h⟩ := bd h
        have w := z2w (z_pF hB eM27 (by decide))
        have hS := hS.tr w.1
        have hB := w.2
        obtain ⟨v28, ev28, h⟩ := bd h
        obtain ⟨M29, eM29, h⟩ := bd h
        have w := z2w (z_pF hB eM29 (by decide))
        have hS := hS.tr w.1
        have hB := w.2
        obtain ⟨M30, eM30, h⟩ := bd h
        have w := z2w (z_pF hB eM30 (by decide))
        have hS := hS.tr w.1
        have hB := w.2
        obtain ⟨q31, eq31, h⟩ := bd h
        have rq31 := z_rc (z_some ra0) eq31
        obtain ⟨v33, M32, eM32, h⟩ := b2d h
        have w := z2w (zX16_optionMss fu q31  M30 hB rq31 eM32)
        have hS := hS.tr w.1
        have hB := w.2
        obtain ⟨M34, eM34, h⟩ := bd h
        have w := z2w (z_pF hB eM34 (by decide))
        have hS := hS.tr w.1
        have hB := w.2
        obtain ⟨v35, ev35, h⟩ := bd h
        by_cases hc : (1095 : Int32) < v35
        · have h := (if_pos hc).symm.trans h
          obtain ⟨v36, ev36, h⟩ := bd h
          have z := uwX16_alone_L255 fu   a0 a1 a1 ((3 : Int32) * v36) M34 hB ra0 h
          exact ⟨hS.tr z.1, z.2⟩
        · have h := (if_neg hc).symm.trans h
          obtain ⟨v37, ev37, h⟩ := bd h
          have z := uwX16_alone_L255 fu   a0 a1 a1 ((4 : Int32) * v37) M34 hB ra0 h
          exact ⟨hS.tr z.1, z.2⟩
    · have h := (if_neg hc).symm.trans h
      obtain ⟨v38, ev38, h⟩ := bd h
      obtain ⟨v39, ev39, h⟩ := bd h
      obtain ⟨v40, ev40, h⟩ := bd h
      by_cases hc : v40 = 0
      · have h := (if_pos hc).symm.trans h
        obtain ⟨v41, ev41, h⟩ := bd h
        obtain ⟨v42, ev42, h⟩ := bd h
        have z := uwX16_alone_L77 fu (fun b0 b1 b2 M => fX16_alone_L54 fu  n b0 b1 b2 M) ih a0 v42 a2 M hB ra0 h
        exact ⟨hS.tr z.1, z.2⟩
      · have h := (if_neg hc).symm.trans h
        have z := uwX16_alone_L77 fu (fun b0 b1 b2 M => fX16_alone_L54 fu  n b0 b1 b2 M) ih a0 a1 a2 M hB ra0 h
        exact ⟨hS.tr z.1, z.2⟩
theorem uwX16_alone (fu : Nat)   (a0 : Nat)  (M : Mm) {out : Mm} (hB : RW M) (ra0 : a0 = 323) (h : fX16_alone fu  a0 M = some out) : Zw M out ∧ RW out := by
  unfold fX16_alone at h
  have hS : Zw M M := Zw.rf
  obtain ⟨q1, eq1, h⟩ := bd h
  have rq1 := z_rc (z_some ra0) eq1
  obtain ⟨v3, M2, eM2, h⟩ := b2d h
  have w := z2w (zX16_is fu q1 (4 : Int32) M hB rq1 eM2)
  have hS := hS.tr w.1
  have hB := w.2
  by_cases hc : v3 = 0
  · have h := (if_pos hc).symm.trans h
    obtain ⟨v4, ev4, h⟩ := bd h
    by_cases hc : v4 = (80 : Int32)
    · have h := (if_pos hc).symm.trans h
      obtain ⟨q5, eq5, h⟩ := bd h
      have rq5 := z_rc (z_some ra0) eq5
      obtain ⟨v7, M6, eM6, h⟩ := b2d h
      have w := z2w (zX16_is fu q5 (16 : Int32) M2 hB rq5 eM6)
      have hS := hS.tr w.1
      have hB := w.2
      by_cases hc : v7 = 0
      · have h := (if_pos hc).symm.trans h
        obtain ⟨q8, eq8, h⟩ := bd h
        have rq8 := z_rc (z_some ra0) eq8
        obtain ⟨v10, M9, eM9, h⟩ := b2d h
        have w := z2w (zX16_is fu q8 (2 : Int32) M6 hB rq8 eM9)
        have hS := hS.tr w.1
        have hB := w.2
        by_cases hc : v10 = 0
        · have h := (if_pos hc).symm.trans h
          obtain rfl := Option.some.inj h
          exact ⟨hS, hB⟩
        · have h := (if_neg hc).symm.trans h
          obtain ⟨q11, eq11, h⟩ := bd h
          have rq11 := z_rc (z_some ra0) eq11
          obtain ⟨v13, M12, eM12, h⟩ := b2d h
          have w := z2w (zX16_is fu q11 (1 : Int32) M9 hB rq11 eM12)
          have hS := hS.tr w.1
          have hB := w.2
          by_cases hc : v13 = 0
          · have h := (if_pos hc).symm.trans h
            have z := uwX16_alone_L54 fu   fu a0 none (15 : Int32) M12 hB ra0 h
            exact ⟨hS.tr z.1, z.2⟩
          · have h := (if_neg hc).symm.trans h
            obtain rfl := Option.some.inj h
            exact ⟨hS, hB⟩
      · have h := (if_neg hc).symm.trans h
        have z := uwX16_alone_L27 fu   a0 M6 hB ra0 h
        exact ⟨hS.tr z.1, z.2⟩
    · have h := (if_neg hc).symm.trans h
      have z := uwX16_alone_L27 fu   a0 M2 hB ra0 h
      exact ⟨hS.tr z.1, z.2⟩
  · have h := (if_neg hc).symm.trans h
    obtain rfl := Option.some.inj h
    exact ⟨hS, hB⟩
theorem uwX16_tcp_L218 (fu : Nat)   (a0 : Nat) (a2 : Option Nat)  (M : Mm) {out : Mm} (hB : RW M) (ra0 : a0 = 323) (h : fX16_tcp_L218 fu  a0 a2 M = some out) : Zw M out ∧ RW out := by
  unfold fX16_tcp_L218 at h
  have hS : Zw M M := Zw.rf
  by_cases hc : a2 = none
  · have h := (if_pos hc).symm.trans h
    obtain ⟨q3, eq3, h⟩ := bd h
    have rq3 := z_rc (z_some ra0) eq3
    obtain ⟨M4, eM4, h⟩ := bd h
    have w := uwX16_alone fu q3  M hB rq3 eM4
    have hS := hS.tr w.1
    have hB := w.2
    obtain rfl := Option.some.inj h
    exact ⟨hS, hB⟩
  · have h := (if_neg hc).symm.trans h
    obtain ⟨q1, eq1, h⟩ := bd h
    have rq1 := z_rc (z_some ra0) eq1
    obtain ⟨M2, eM2, h⟩ := bd h
    have w := z2w (zX16_segment fu q1 a2 M hB rq1 eM2)
    have hS := hS.tr w.1
    have hB := w.2
    obtain rfl := Option.some.inj h
    exact ⟨hS, hB⟩
theorem uwX16_tcp_L212 (fu : Nat) {out : Mm} (k154 : Nat → Option Nat → Int32 → Mm → Option (Mm)) (hk154 : ∀ (b0 : Nat) (b2 : Option Nat) (b3 : Int32)  (M : Mm), RW M → b0 = 323 → k154 b0 b2 b3 M = some out → Zw M out ∧ RW out) (a0 : Nat) (a2 : Option Nat) (a3 : Int32)  (M : Mm) (hB : RW M) (ra0 : a0 = 323) (h : fX16_tcp_L212 fu k154 a0 a2 a3 M = some out) : Zw M out ∧ RW out := by
  unfold fX16_tcp_L212 at h
  have hS : Zw M M := Zw.rf
  have z := hk154 a0 a2 (a3 + (1 : Int32)) M hB ra0 h
  exact ⟨hS.tr z.1, z.2⟩
theorem uwX16_tcp_L154 (fu : Nat) {out : Mm}   : ∀ (n : Nat) (a0 : Nat) (a2 : Option Nat) (a3 : Int32)  (M : Mm), RW M → a0 = 323 → fX16_tcp_L154 fu  n a0 a2 a3 M = some out → Zw M out ∧ RW out := by
  intro n
  induction n with
  | zero =>
    intro a0 a2 a3 M hB ra0 h
    have h : (none : Option (Mm)) = some out := h
    cases h
  | succ n ih =>
    intro a0 a2 a3 M hB ra0 h
    rw [fX16_tcp_L154] at h
    have hS : Zw M M := Zw.rf
    by_cases hc : (16 : Int32) ≤ a3
    · have h := (if_pos hc).symm.trans h
      have z := uwX16_tcp_L218 fu   a0 a2 M hB ra0 h
      exact ⟨hS.tr z.1, z.2⟩
    · have h := (if_neg hc).symm.trans h
      obtain ⟨v1, ev1, h⟩ := bd h
      by_cases hc : v1 = (80 : Int32)
      · have h := (if_pos hc).symm.trans h
        obtain ⟨v2, ev2, h⟩ := bd h
        obtain ⟨v3, ev3, h⟩ := bd h
        obtain ⟨v4, ev4, h⟩ := bd h
        by_cases hc : v4 = 0
        · have h := (if_pos hc).symm.trans h
          have z := uwX16_tcp_L212 fu (fun b0 b2 b3 M => fX16_tcp_L154 fu  n b0 b2 b3 M) ih a0 a2 a3 M hB ra0 h
          exact ⟨hS.tr z.1, z.2⟩
        · have h := (if_neg hc).symm.trans h
          obtain ⟨v5, ev5, h⟩ := bd h
          obtain ⟨v6, ev6, h⟩ := bd h
          by_cases hc : v5 = v6
          · have h := (if_pos hc).symm.trans h
            obtain ⟨v7, ev7, h⟩ := bd h
            obtain ⟨v8, ev8, h⟩ := bd h
            by_cases hc : v7 = v8
            · have h := (if_pos hc).symm.trans h
              have z := uwX16_tcp_L212 fu (fun b0 b2 b3 M => fX16_tcp_L154 fu  n b0 b2 b3 M) ih a0 v3 a3 M hB ra0 h
              exact ⟨hS.tr z.1, z.2⟩
            · have h := (if_neg hc).symm.trans h
              have z := uwX16_tcp_L212 fu (fun b0 b2 b3 M => fX16_tcp_L154 fu  n b0 b2 b3 M) ih a0 a2 a3 M hB ra0 h
              exact ⟨hS.tr z.1, z.2⟩
          · have h := (if_neg hc).symm.trans h
            have z := uwX16_tcp_L212 fu (fun b0 b2 b3 M => fX16_tcp_L154 fu  n b0 b2 b3 M) ih a0 a2 a3 M hB ra0 h
            exact ⟨hS.tr z.1, z.2⟩
      · have h := (if_neg hc).symm.trans h
        have z := uwX16_tcp_L218 fu   a0 a2 M hB ra0 h
        exact ⟨hS.tr z.1, z.2⟩
theorem uwX16_tcp (fu : Nat)   (a0 : Nat) (a1 : Int32)  (M : Mm) {out : Mm} (hB : RW M) (ra0 : a0 = 323) (h : fX16_tcp fu  a0 a1 M = some out) : Zw M out ∧ RW out := by
  unfold fX16_tcp at h
  have hS : Zw M M := Zw.rf
  by_cases hc : (20 : Int32) ≤ a1
  · have h := (if_pos hc).symm.trans h
    obtain ⟨v1, ev1, h⟩ := bd h
    obtain ⟨v2, ev2, h⟩ := bd h
    obtain ⟨M3, eM3, h⟩ := bd h
    have w := z2w (z_pF hB eM3 (by decide))
    have hS := hS.tr w.1
    have hB := w.2
    obtain ⟨v4, ev4, h⟩ := bd h
    by_cases hc : v4 < (20 : Int32)
    · have h := (if_pos hc).symm.trans h
      obtain rfl := Option.some.inj h
      exact ⟨hS, hB⟩
    · have h := (if_neg hc).symm.trans h
      obtain ⟨v5, ev5, h⟩ := bd h
      by_cases hc : a1 < v5
      · have h := (if_pos hc).symm.trans h
        obtain rfl := Option.some.inj h
        exact ⟨hS, hB⟩
      · have h := (if_neg hc).symm.trans h
        obtain ⟨v6, ev6, h⟩ := bd h
        obtain ⟨v7, ev7, h⟩ := bd h
        obtain ⟨v8, ev8, h⟩ := bd h
        obtain ⟨q9, eq9, h⟩ := bd h
        have rq9 := z_rc (z_some ra0) eq9
        obtain ⟨v11, M10, eM10, h⟩ := b2d h
        have w := z2w (zX16_pseudo fu q9 v7 v8 a1 M3 hB rq9 eM10)
        have hS := hS.tr w.1
        have hB := w.2
        obtain ⟨v13, M12, eM12, h⟩ := b2d h
        have w := z2w (zX16_added fu  v6 (0 : Int32) a1 v11 M10 hB  eM12)
        have hS := hS.tr w.1
        have hB := w.2
        obtain ⟨v15, M14, eM14, h⟩ := b2d h
        have w := z2w (zX16_sixteen fu  v13 M12 hB  eM14)
        have hS := hS.tr w.1
        have hB := w.2
        by_cases hc : v15 = 0
        · have h := (if_pos hc).symm.trans h
          obtain ⟨q16, eq16, h⟩ := bd h
          have rq16 := z_rc (z_some ra0) eq16
          obtain ⟨v18, M17, eM17, h⟩ := b2d h
          have w := z2w (zX16_half fu q16 (0 : Int32) M14 hB rq16 eM17)
          have hS := hS.tr w.1
          have hB := w.2
          obtain ⟨M19, eM19, h⟩ := bd h
          have w := z2w (z_pF hB eM19 (by decide))
          have hS := hS.tr w.1
          have hB := w.2
          obtain ⟨q20, eq20, h⟩ := bd h
          have rq20 := z_rc (z_some ra0) eq20
          obtain ⟨v22, M21, eM21, h⟩ := b2d h
          have w := z2w (zX16_half fu q20 (2 : Int32) M19 hB rq20 eM21)
          have hS := hS.tr w.1
          have hB := w.2
          obtain ⟨M23, eM23, h⟩ := bd h
          have w := z2w (z_pF hB eM23 (by decide))
          have hS := hS.tr w.1
          have hB := w.2
          obtain ⟨q24, eq24, h⟩ := bd h
          have rq24 := z_rc (z_some ra0) eq24
          obtain ⟨v26, M25, eM25, h⟩ := b2d h
          have w := z2w (zX16_wholeWord fu q24 (4 : Int32) M23 hB rq24 eM25)
          have hS := hS.tr w.1
          have hB := w.2
          obtain ⟨M27, eM27, h⟩ := bd h
          have w := z2w (z_pF hB eM27 (by decide))
          have hS := hS.tr w.1
          have hB := w.2
          obtain ⟨q28, eq28, h⟩ := bd h
          have rq28 := z_rc (z_some ra0) eq28
          obtain ⟨v30, M29, eM29, h⟩ := b2d h
          have w := z2w (zX16_wholeWord fu q28 (8 : Int32) M27 hB rq28 eM29)
          have hS := hS.tr w.1
          have hB := w.2
          obtain ⟨M31, eM31, h⟩ := bd h
          have w := z2w (z_pF hB eM31 (by decide))
          have hS := hS.tr w.1
          have hB := w.2
          obtain ⟨v32, ev32, h⟩ := bd h
          obtain ⟨v33, ev33, h⟩ := bd h
          obtain ⟨M34, eM34, h⟩ := bd h
          have w := z2w (z_pF hB eM34 (by decide))
          have hS := hS.tr w.1
          have hB := w.2
          obtain ⟨q35, eq35, h⟩ := bd h
          have rq35 := z_rc (z_some ra0) eq35
          obtain ⟨v37, M36, eM36, h⟩ := b2d h
          have w := z2w (zX16_half fu q35 (14 : Int32) M34 hB rq35 eM36)
          have hS := hS.tr w.1
          have hB := w.2
          obtain ⟨M38, eM38, h⟩ := bd h
          have w := z2w (z_pF hB eM38 (by decide))
          have hS := hS.tr w.1
          have hB := w.2
          obtain ⟨v39, ev39, h⟩ := bd h
          obtain ⟨M40, eM40, h⟩ := bd h
          have w := z2w (z_pF hB eM40 (by decide))
          have hS := hS.tr w.1
          have hB := w.2
          obtain ⟨v41, ev41, h⟩ := bd h
          obtain ⟨M42, eM42, h⟩ := bd h
          have w := z2w (z_pF hB eM42 (by decide))
          have hS := hS.tr w.1
          have hB := w.2
          have z := uwX16_tcp_L154 fu   fu a0 none (0 : Int32) M42 hB ra0 h
          exact ⟨hS.tr z.1, z.2⟩
        · have h := (if_neg hc).symm.trans h
          obtain rfl := Option.some.inj h
          exact ⟨hS, hB⟩
  · have h := (if_neg hc).symm.trans h
    obtain rfl := Option.some.inj h
    exact ⟨hS, hB⟩
theorem uwX16_taken (fu : Nat)   (a0 : Nat) (a1 : Int32) (a2 : Int32)  (M : Mm) {out : Mm} (hB : RW M) (ra0 : a0 = 323) (h : fX16_taken fu  a0 a1 a2 M = some out) : Zw M out ∧ RW out := by
  unfold fX16_taken at h
  have hS : Zw M M := Zw.rf
  by_cases hc : a1 = (1 : Int32)
  · have h := (if_pos hc).symm.trans h
    obtain ⟨q3, eq3, h⟩ := bd h
    have rq3 := z_rc (z_some ra0) eq3
    obtain ⟨M4, eM4, h⟩ := bd h
    have w := z2w (zX16_echo fu q3 a2 M hB rq3 eM4)
    have hS := hS.tr w.1
    have hB := w.2
    obtain rfl := Option.some.inj h
    exact ⟨hS, hB⟩
  · have h := (if_neg hc).symm.trans h
    by_cases hc : a1 = (6 : Int32)
    · have h := (if_pos hc).symm.trans h
      obtain ⟨q1, eq1, h⟩ := bd h
      have rq1 := z_rc (z_some ra0) eq1
      obtain ⟨M2, eM2, h⟩ := bd h
      have w := uwX16_tcp fu q1 a2 M hB rq1 eM2
      have hS := hS.tr w.1
      have hB := w.2
      obtain rfl := Option.some.inj h
      exact ⟨hS, hB⟩
    · have h := (if_neg hc).symm.trans h
      obtain rfl := Option.some.inj h
      exact ⟨hS, hB⟩
theorem uwX16_fragment_L422 (fu : Nat) {out : Mm}   : ∀ (n : Nat) (a0 : Nat) (a1 : Int32) (a2 : Int32) (a8 : Option Nat) (a12 : Int32)  (M : Mm), RW M → a0 = 323 → fX16_fragment_L422 fu  n a0 a1 a2 a8 a12 M = some out → Zw M out ∧ RW out := by
  intro n
  induction n with
  | zero =>
    intro a0 a1 a2 a8 a12 M hB ra0 h
    have h : (none : Option (Mm)) = some out := h
    cases h
  | succ n ih =>
    intro a0 a1 a2 a8 a12 M hB ra0 h
    rw [fX16_fragment_L422] at h
    have hS : Zw M M := Zw.rf
    obtain ⟨v1, ev1, h⟩ := bd h
    by_cases hc : v1 ≤ a12
    · have h := (if_pos hc).symm.trans h
      obtain ⟨M2, eM2, h⟩ := bd h
      have w := z2w (z_pF hB eM2 (by decide))
      have hS := hS.tr w.1
      have hB := w.2
      obtain ⟨v3, ev3, h⟩ := bd h
      obtain ⟨q4, eq4, h⟩ := bd h
      have rq4 := z_rc (z_some ra0) eq4
      obtain ⟨M5, eM5, h⟩ := bd h
      have w := uwX16_taken fu q4 a2 v3 M2 hB rq4 eM5
      have hS := hS.tr w.1
      have hB := w.2
      obtain rfl := Option.some.inj h
      exact ⟨hS, hB⟩
    · have h := (if_neg hc).symm.trans h
      obtain ⟨v6, ev6, h⟩ := bd h
      obtain ⟨v7, ev7, h⟩ := bd h
      obtain ⟨v8, ev8, h⟩ := bd h
      obtain ⟨M9, eM9, h⟩ := bd h
      have w := z2w (z_pA hB (by decide) eM9)
      have hS := hS.tr w.1
      have hB := w.2
      have z := ih a0 a1 a2 a8 (a12 + (1 : Int32)) M9 hB ra0 h
      exact ⟨hS.tr z.1, z.2⟩
theorem uwX16_fragment_L375 (fu : Nat) {out : Mm}   : ∀ (n : Nat) (a0 : Nat) (a1 : Int32) (a2 : Int32) (a8 : Option Nat) (a12 : Int32)  (M : Mm), RW M → a0 = 323 → fX16_fragment_L375 fu  n a0 a1 a2 a8 a12 M = some out → Zw M out ∧ RW out := by
  intro n
  induction n with
  | zero =>
    intro a0 a1 a2 a8 a12 M hB ra0 h
    have h : (none : Option (Mm)) = some out := h
    cases h
  | succ n ih =>
    intro a0 a1 a2 a8 a12 M hB ra0 h
    rw [fX16_fragment_L375] at h
    have hS : Zw M M := Zw.rf
    obtain ⟨v1, ev1, h⟩ := bd h
    by_cases hc : v1 ≤ a12
    · have h := (if_pos hc).symm.trans h
      obtain ⟨M2, eM2, h⟩ := bd h
      have w := z2w (z_pZ hB eM2 (by decide))
      have hS := hS.tr w.1
      have hB := w.2
      obtain ⟨v3, ev3, h⟩ := bd h
      obtain ⟨v4, ev4, h⟩ := bd h
      obtain ⟨M5, eM5, h⟩ := bd h
      have w := z2w (z_pI hB eM5 (by decide))
      have hS := hS.tr w.1
      have hB := w.2
      have z := uwX16_fragment_L422 fu   fu a0 a1 a2 a8 (0 : Int32) M5 hB ra0 h
      exact ⟨hS.tr z.1, z.2⟩
    · have h := (if_neg hc).symm.trans h
      obtain ⟨v6, ev6, h⟩ := bd h
      obtain ⟨v7, ev7, h⟩ := bd h
      by_cases hc : v7 = 0
      · have h := (if_pos hc).symm.trans h
        obtain rfl := Option.some.inj h
        exact ⟨hS, hB⟩
      · have h := (if_neg hc).symm.trans h
        have z := ih a0 a1 a2 a8 (a12 + (1 : Int32)) M hB ra0 h
        exact ⟨hS.tr z.1, z.2⟩
theorem uwX16_fragment_L357 (fu : Nat) {out : Mm} (k306 : Nat → Int32 → Int32 → Int32 → Int32 → Int32 → Option Nat → Int32 → Mm → Option (Mm)) (hk306 : ∀ (b0 : Nat) (b1 : Int32) (b2 : Int32) (b3 : Int32) (b4 : Int32) (b5 : Int32) (b8 : Option Nat) (b12 : Int32)  (M : Mm), RW M → b0 = 323 → k306 b0 b1 b2 b3 b4 b5 b8 b12 M = some out → Zw M out ∧ RW out) (a0 : Nat) (a1 : Int32) (a2 : Int32) (a3 : Int32) (a4 : Int32) (a5 : Int32) (a8 : Option Nat) (a12 : Int32)  (M : Mm) (hB : RW M) (ra0 : a0 = 323) (h : fX16_fragment_L357 fu k306 a0 a1 a2 a3 a4 a5 a8 a12 M = some out) : Zw M out ∧ RW out := by
  unfold fX16_fragment_L357 at h
  have hS : Zw M M := Zw.rf
  have z := hk306 a0 a1 a2 a3 a4 a5 a8 (a12 + (1 : Int32)) M hB ra0 h
  exact ⟨hS.tr z.1, z.2⟩
theorem uwX16_fragment_L306 (fu : Nat) {out : Mm}   : ∀ (n : Nat) (a0 : Nat) (a1 : Int32) (a2 : Int32) (a3 : Int32) (a4 : Int32) (a5 : Int32) (a8 : Option Nat) (a12 : Int32)  (M : Mm), RW M → a0 = 323 → fX16_fragment_L306 fu  n a0 a1 a2 a3 a4 a5 a8 a12 M = some out → Zw M out ∧ RW out := by
  intro n
  induction n with
  | zero =>
    intro a0 a1 a2 a3 a4 a5 a8 a12 M hB ra0 h
    have h : (none : Option (Mm)) = some out := h
    cases h
  | succ n ih =>
    intro a0 a1 a2 a3 a4 a5 a8 a12 M hB ra0 h
    rw [fX16_fragment_L306] at h
    have hS : Zw M M := Zw.rf
    by_cases hc : a5 ≤ a12
    · have h := (if_pos hc).symm.trans h
      obtain ⟨v1, ev1, h⟩ := bd h
      by_cases hc : 0 ≤ v1
      · have h := (if_pos hc).symm.trans h
        have z := uwX16_fragment_L375 fu   fu a0 a1 a2 a8 (0 : Int32) M hB ra0 h
        exact ⟨hS.tr z.1, z.2⟩
      · have h := (if_neg hc).symm.trans h
        obtain rfl := Option.some.inj h
        exact ⟨hS, hB⟩
    · have h := (if_neg hc).symm.trans h
      obtain ⟨v2, ev2, h⟩ := bd h
      obtain ⟨v3, ev3, h⟩ := bd h
      by_cases hc : v3 = 0
      · have h := (if_pos hc).symm.trans h
        obtain ⟨v4, ev4, h⟩ := bd h
        obtain ⟨M5, eM5, h⟩ := bd h
        have w := z2w (z_pA hB (by decide) eM5)
        have hS := hS.tr w.1
        have hB := w.2
        obtain ⟨v6, ev6, h⟩ := bd h
        obtain ⟨v7, ev7, h⟩ := bd h
        obtain ⟨v8, ev8, h⟩ := bd h
        obtain ⟨M9, eM9, h⟩ := bd h
        have w := z2w (z_pA hB (by decide) eM9)
        have hS := hS.tr w.1
        have hB := w.2
        have z := uwX16_fragment_L357 fu (fun b0 b1 b2 b3 b4 b5 b8 b12 M => fX16_fragment_L306 fu  n b0 b1 b2 b3 b4 b5 b8 b12 M) ih a0 a1 a2 a3 a4 a5 a8 a12 M9 hB ra0 h
        exact ⟨hS.tr z.1, z.2⟩
      · have h := (if_neg hc).symm.trans h
        have z := uwX16_fragment_L357 fu (fun b0 b1 b2 b3 b4 b5 b8 b12 M => fX16_fragment_L306 fu  n b0 b1 b2 b3 b4 b5 b8 b12 M) ih a0 a1 a2 a3 a4 a5 a8 a12 M hB ra0 h
        exact ⟨hS.tr z.1, z.2⟩
theorem uwX16_fragment_L303 (fu : Nat)   (a0 : Nat) (a1 : Int32) (a2 : Int32) (a3 : Int32) (a4 : Int32) (a5 : Int32) (a8 : Option Nat)  (M : Mm) {out : Mm} (hB : RW M) (ra0 : a0 = 323) (h : fX16_fragment_L303 fu  a0 a1 a2 a3 a4 a5 a8 M = some out) : Zw M out ∧ RW out := by
  unfold fX16_fragment_L303 at h
  have hS : Zw M M := Zw.rf
  have z := uwX16_fragment_L306 fu   fu a0 a1 a2 a3 a4 a5 a8 (0 : Int32) M hB ra0 h
  exact ⟨hS.tr z.1, z.2⟩
theorem uwX16_fragment_L279 (fu : Nat)   (a0 : Nat) (a1 : Int32) (a2 : Int32) (a3 : Int32) (a4 : Int32) (a5 : Int32) (a6 : Int32) (a8 : Option Nat) (a10 : Int32) (a11 : Int32)  (M : Mm) {out : Mm} (hB : RW M) (ra0 : a0 = 323) (h : fX16_fragment_L279 fu  a0 a1 a2 a3 a4 a5 a6 a8 a10 a11 M = some out) : Zw M out ∧ RW out := by
  unfold fX16_fragment_L279 at h
  have hS : Zw M M := Zw.rf
  by_cases hc : a11 = 0
  · have h := (if_pos hc).symm.trans h
    by_cases hc : a6 = 0
    · have h := (if_pos hc).symm.trans h
      obtain ⟨M1, eM1, h⟩ := bd h
      have w := z2w (z_pF hB eM1 (by decide))
      have hS := hS.tr w.1
      have hB := w.2
      have z := uwX16_fragment_L303 fu   a0 a1 a2 a3 a4 a5 a8 M1 hB ra0 h
      exact ⟨hS.tr z.1, z.2⟩
    · have h := (if_neg hc).symm.trans h
      have z := uwX16_fragment_L303 fu   a0 a1 a2 a3 a4 a5 a8 M hB ra0 h
      exact ⟨hS.tr z.1, z.2⟩
  · have h := (if_neg hc).symm.trans h
    obtain ⟨M2, eM2, h⟩ := bd h
    have w := z2w (z_pZ hB eM2 (by decide))
    have hS := hS.tr w.1
    have hB := w.2
    obtain rfl := Option.some.inj h
    exact ⟨hS, hB⟩
theorem uwX16_fragment_L271 (fu : Nat) {out : Mm} (k242 : Nat → Int32 → Int32 → Int32 → Int32 → Int32 → Int32 → Option Nat → Int32 → Int32 → Int32 → Mm → Option (Mm)) (hk242 : ∀ (b0 : Nat) (b1 : Int32) (b2 : Int32) (b3 : Int32) (b4 : Int32) (b5 : Int32) (b6 : Int32) (b8 : Option Nat) (b10 : Int32) (b11 : Int32) (b12 : Int32)  (M : Mm), RW M → b0 = 323 → k242 b0 b1 b2 b3 b4 b5 b6 b8 b10 b11 b12 M = some out → Zw M out ∧ RW out) (a0 : Nat) (a1 : Int32) (a2 : Int32) (a3 : Int32) (a4 : Int32) (a5 : Int32) (a6 : Int32) (a8 : Option Nat) (a10 : Int32) (a12 : Int32) (s0 : Int32) (M : Mm) (hB : RW M) (ra0 : a0 = 323) (h : fX16_fragment_L271 fu k242 a0 a1 a2 a3 a4 a5 a6 a8 a10 a12 s0 M = some out) : Zw M out ∧ RW out := by
  unfold fX16_fragment_L271 at h
  have hS : Zw M M := Zw.rf
  have z := hk242 a0 a1 a2 a3 a4 a5 a6 a8 a10 s0 (a12 + (1 : Int32)) M hB ra0 h
  exact ⟨hS.tr z.1, z.2⟩
theorem uwX16_fragment_L266 (fu : Nat) {out : Mm} (k242 : Nat → Int32 → Int32 → Int32 → Int32 → Int32 → Int32 → Option Nat → Int32 → Int32 → Int32 → Mm → Option (Mm)) (hk242 : ∀ (b0 : Nat) (b1 : Int32) (b2 : Int32) (b3 : Int32) (b4 : Int32) (b5 : Int32) (b6 : Int32) (b8 : Option Nat) (b10 : Int32) (b11 : Int32) (b12 : Int32)  (M : Mm), RW M → b0 = 323 → k242 b0 b1 b2 b3 b4 b5 b6 b8 b10 b11 b12 M = some out → Zw M out ∧ RW out) (a0 : Nat) (a1 : Int32) (a2 : Int32) (a3 : Int32) (a4 : Int32) (a5 : Int32) (a6 : Int32) (a8 : Option Nat) (a10 : Int32) (a12 : Int32)  (M : Mm) (hB : RW M) (ra0 : a0 = 323) (h : fX16_fragment_L266 fu k242 a0 a1 a2 a3 a4 a5 a6 a8 a10 a12 M = some out) : Zw M out ∧ RW out := by
  unfold fX16_fragment_L266 at h
  have hS : Zw M M := Zw.rf
  have z := uwX16_fragment_L271 fu k242 hk242 a0 a1 a2 a3 a4 a5 a6 a8 a10 a12 (1 : Int32) M hB ra0 h
  exact ⟨hS.tr z.1, z.2⟩
theorem uwX16_fragment_L242 (fu : Nat) {out : Mm}   : ∀ (n : Nat) (a0 : Nat) (a1 : Int32) (a2 : Int32) (a3 : Int32) (a4 : Int32) (a5 : Int32) (a6 : Int32) (a8 : Option Nat) (a10 : Int32) (a11 : Int32) (a12 : Int32)  (M : Mm), RW M → a0 = 323 → fX16_fragment_L242 fu  n a0 a1 a2 a3 a4 a5 a6 a8 a10 a11 a12 M = some out → Zw M out ∧ RW out := by
  intro n
  induction n with
  | zero =>
    intro a0 a1 a2 a3 a4 a5 a6 a8 a10 a11 a12 M hB ra0 h
    have h : (none : Option (Mm)) = some out := h
    cases h
  | succ n ih =>
    intro a0 a1 a2 a3 a4 a5 a6 a8 a10 a11 a12 M hB ra0 h
    rw [fX16_fragment_L242] at h
    have hS : Zw M M := Zw.rf
    by_cases hc : (4096 : Int32) ≤ a12
    · have h := (if_pos hc).symm.trans h
      have z := uwX16_fragment_L279 fu   a0 a1 a2 a3 a4 a5 a6 a8 a10 a11 M hB ra0 h
      exact ⟨hS.tr z.1, z.2⟩
    · have h := (if_neg hc).symm.trans h
      by_cases hc : a11 = 0
      · have h := (if_pos hc).symm.trans h
        obtain ⟨v1, ev1, h⟩ := bd h
        obtain ⟨v2, ev2, h⟩ := bd h
        by_cases hc : v2 = 0
        · have h := (if_pos hc).symm.trans h
          have z := uwX16_fragment_L271 fu (fun b0 b1 b2 b3 b4 b5 b6 b8 b10 b11 b12 M => fX16_fragment_L242 fu  n b0 b1 b2 b3 b4 b5 b6 b8 b10 b11 b12 M) ih a0 a1 a2 a3 a4 a5 a6 a8 a10 a12 (0 : Int32) M hB ra0 h
          exact ⟨hS.tr z.1, z.2⟩
        · have h := (if_neg hc).symm.trans h
          have z := uwX16_fragment_L266 fu (fun b0 b1 b2 b3 b4 b5 b6 b8 b10 b11 b12 M => fX16_fragment_L242 fu  n b0 b1 b2 b3 b4 b5 b6 b8 b10 b11 b12 M) ih a0 a1 a2 a3 a4 a5 a6 a8 a10 a12 M hB ra0 h
          exact ⟨hS.tr z.1, z.2⟩
      · have h := (if_neg hc).symm.trans h
        have z := uwX16_fragment_L266 fu (fun b0 b1 b2 b3 b4 b5 b6 b8 b10 b11 b12 M => fX16_fragment_L242 fu  n b0 b1 b2 b3 b4 b5 b6 b8 b10 b11 b12 M) ih a0 a1 a2 a3 a4 a5 a6 a8 a10 a12 M hB ra0 h
        exact ⟨hS.tr z.1, z.2⟩
theorem uwX16_fragment_L231 (fu : Nat)   (a0 : Nat) (a1 : Int32) (a2 : Int32) (a3 : Int32) (a4 : Int32) (a5 : Int32) (a6 : Int32) (a8 : Option Nat) (a10 : Int32) (s0 : Int32) (M : Mm) {out : Mm} (hB : RW M) (ra0 : a0 = 323) (h : fX16_fragment_L231 fu  a0 a1 a2 a3 a4 a5 a6 a8 a10 s0 M = some out) : Zw M out ∧ RW out := by
  unfold fX16_fragment_L231 at h
  have hS : Zw M M := Zw.rf
  by_cases hc : a6 = 0
  · have h := (if_pos hc).symm.trans h
    have z := uwX16_fragment_L242 fu   fu a0 a1 a2 a3 a4 a5 a6 a8 a10 s0 a10 M hB ra0 h
    exact ⟨hS.tr z.1, z.2⟩
  · have h := (if_neg hc).symm.trans h
    have z := uwX16_fragment_L279 fu   a0 a1 a2 a3 a4 a5 a6 a8 a10 s0 M hB ra0 h
    exact ⟨hS.tr z.1, z.2⟩
theorem uwX16_fragment_L230 (fu : Nat)   (a0 : Nat) (a1 : Int32) (a2 : Int32) (a3 : Int32) (a4 : Int32) (a5 : Int32) (a6 : Int32) (a8 : Option Nat) (a10 : Int32)  (M : Mm) {out : Mm} (hB : RW M) (ra0 : a0 = 323) (h : fX16_fragment_L230 fu  a0 a1 a2 a3 a4 a5 a6 a8 a10 M = some out) : Zw M out ∧ RW out := by
  unfold fX16_fragment_L230 at h
  have hS : Zw M M := Zw.rf
  have z := uwX16_fragment_L231 fu   a0 a1 a2 a3 a4 a5 a6 a8 a10 (0 : Int32) M hB ra0 h
  exact ⟨hS.tr z.1, z.2⟩
theorem uwX16_fragment_L226 (fu : Nat)   (a0 : Nat) (a1 : Int32) (a2 : Int32) (a3 : Int32) (a4 : Int32) (a5 : Int32) (a6 : Int32) (a8 : Option Nat) (a10 : Int32)  (M : Mm) {out : Mm} (hB : RW M) (ra0 : a0 = 323) (h : fX16_fragment_L226 fu  a0 a1 a2 a3 a4 a5 a6 a8 a10 M = some out) : Zw M out ∧ RW out := by
  unfold fX16_fragment_L226 at h
  have hS : Zw M M := Zw.rf
  have z := uwX16_fragment_L231 fu   a0 a1 a2 a3 a4 a5 a6 a8 a10 (1 : Int32) M hB ra0 h
  exact ⟨hS.tr z.1, z.2⟩
theorem uwX16_fragment_L184 (fu : Nat)   (a0 : Nat) (a1 : Int32) (a2 : Int32) (a3 : Int32) (a4 : Int32) (a5 : Int32) (a6 : Int32) (a8 : Option Nat)  (M : Mm) {out : Mm} (hB : RW M) (ra0 : a0 = 323) (h : fX16_fragment_L184 fu  a0 a1 a2 a3 a4 a5 a6 a8 M = some out) : Zw M out ∧ RW out := by
  unfold fX16_fragment_L184 at h
  have hS : Zw M M := Zw.rf
  obtain ⟨v1, ev1, h⟩ := bd h
  by_cases hc : v1 < 0
  · have h := (if_pos hc).symm.trans h
    have z := uwX16_fragment_L230 fu   a0 a1 a2 a3 a4 a5 a6 a8 (a3 + a5) M hB ra0 h
    exact ⟨hS.tr z.1, z.2⟩
  · have h := (if_neg hc).symm.trans h
    by_cases hc : a6 = 0
    · have h := (if_pos hc).symm.trans h
      obtain ⟨v2, ev2, h⟩ := bd h
      by_cases hc : (a3 + a5) = v2
      · have h := (if_pos hc).symm.trans h
        have z := uwX16_fragment_L230 fu   a0 a1 a2 a3 a4 a5 a6 a8 (a3 + a5) M hB ra0 h
        exact ⟨hS.tr z.1, z.2⟩
      · have h := (if_neg hc).symm.trans h
        have z := uwX16_fragment_L226 fu   a0 a1 a2 a3 a4 a5 a6 a8 (a3 + a5) M hB ra0 h
        exact ⟨hS.tr z.1, z.2⟩
    · have h := (if_neg hc).symm.trans h
      obtain ⟨v3, ev3, h⟩ := bd h
      by_cases hc : (a3 + a5) ≤ v3
      · have h := (if_pos hc).symm.trans h
        have z := uwX16_fragment_L230 fu   a0 a1 a2 a3 a4 a5 a6 a8 (a3 + a5) M hB ra0 h
        exact ⟨hS.tr z.1, z.2⟩
      · have h := (if_neg hc).symm.trans h
        have z := uwX16_fragment_L226 fu   a0 a1 a2 a3 a4 a5 a6 a8 (a3 + a5) M hB ra0 h
        exact ⟨hS.tr z.1, z.2⟩
theorem uwX16_fragment_L161 (fu : Nat) {out : Mm}   : ∀ (n : Nat) (a0 : Nat) (a1 : Int32) (a2 : Int32) (a3 : Int32) (a4 : Int32) (a5 : Int32) (a6 : Int32) (a8 : Option Nat) (a10 : Int32)  (M : Mm), RW M → a0 = 323 → fX16_fragment_L161 fu  n a0 a1 a2 a3 a4 a5 a6 a8 a10 M = some out → Zw M out ∧ RW out := by
  intro n
  induction n with
  | zero =>
    intro a0 a1 a2 a3 a4 a5 a6 a8 a10 M hB ra0 h
    have h : (none : Option (Mm)) = some out := h
    cases h
  | succ n ih =>
    intro a0 a1 a2 a3 a4 a5 a6 a8 a10 M hB ra0 h
    rw [fX16_fragment_L161] at h
    have hS : Zw M M := Zw.rf
    by_cases hc : (4096 : Int32) ≤ a10
    · have h := (if_pos hc).symm.trans h
      have z := uwX16_fragment_L184 fu   a0 a1 a2 a3 a4 a5 a6 a8 M hB ra0 h
      exact ⟨hS.tr z.1, z.2⟩
    · have h := (if_neg hc).symm.trans h
      obtain ⟨v1, ev1, h⟩ := bd h
      obtain ⟨M2, eM2, h⟩ := bd h
      have w := z2w (z_pA hB (by decide) eM2)
      have hS := hS.tr w.1
      have hB := w.2
      have z := ih a0 a1 a2 a3 a4 a5 a6 a8 (a10 + (1 : Int32)) M2 hB ra0 h
      exact ⟨hS.tr z.1, z.2⟩
theorem uwX16_fragment_L78 (fu : Nat) {out : Mm} (k17 : Nat → Int32 → Int32 → Int32 → Int32 → Int32 → Int32 → Int32 → Option Nat → Option Nat → Int32 → Mm → Option (Mm)) (hk17 : ∀ (b0 : Nat) (b1 : Int32) (b2 : Int32) (b3 : Int32) (b4 : Int32) (b5 : Int32) (b6 : Int32) (b7 : Int32) (b8 : Option Nat) (b9 : Option Nat) (b10 : Int32)  (M : Mm), RW M → b0 = 323 → k17 b0 b1 b2 b3 b4 b5 b6 b7 b8 b9 b10 M = some out → Zw M out ∧ RW out) (a0 : Nat) (a1 : Int32) (a2 : Int32) (a3 : Int32) (a4 : Int32) (a5 : Int32) (a6 : Int32) (a7 : Int32) (a8 : Option Nat) (a9 : Option Nat) (a10 : Int32)  (M : Mm) (hB : RW M) (ra0 : a0 = 323) (h : fX16_fragment_L78 fu k17 a0 a1 a2 a3 a4 a5 a6 a7 a8 a9 a10 M = some out) : Zw M out ∧ RW out := by
  unfold fX16_fragment_L78 at h
  have hS : Zw M M := Zw.rf
  have z := hk17 a0 a1 a2 a3 a4 a5 a6 a7 a8 a9 (a10 + (-1 : Int32)) M hB ra0 h
  exact ⟨hS.tr z.1, z.2⟩
theorem uwX16_fragment_L17 (fu : Nat) {out : Mm}   : ∀ (n : Nat) (a0 : Nat) (a1 : Int32) (a2 : Int32) (a3 : Int32) (a4 : Int32) (a5 : Int32) (a6 : Int32) (a7 : Int32) (a8 : Option Nat) (a9 : Option Nat) (a10 : Int32)  (M : Mm), RW M → a0 = 323 → fX16_fragment_L17 fu  n a0 a1 a2 a3 a4 a5 a6 a7 a8 a9 a10 M = some out → Zw M out ∧ RW out := by
  intro n
  induction n with
  | zero =>
    intro a0 a1 a2 a3 a4 a5 a6 a7 a8 a9 a10 M hB ra0 h
    have h : (none : Option (Mm)) = some out := h
    cases h
  | succ n ih =>
    intro a0 a1 a2 a3 a4 a5 a6 a7 a8 a9 a10 M hB ra0 h
    rw [fX16_fragment_L17] at h
    have hS : Zw M M := Zw.rf
    by_cases hc : a10 < 0
    · have h := (if_pos hc).symm.trans h
      by_cases hc : a8 = none
      · have h := (if_pos hc).symm.trans h
        by_cases hc : a9 = none
        · have h := (if_pos hc).symm.trans h
          obtain rfl := Option.some.inj h
          exact ⟨hS, hB⟩
        · have h := (if_neg hc).symm.trans h
          obtain ⟨M1, eM1, h⟩ := bd h
          have w := z2w (z_pZ hB eM1 (by decide))
          have hS := hS.tr w.1
          have hB := w.2
          obtain ⟨M2, eM2, h⟩ := bd h
          have w := z2w (z_pF hB eM2 (by decide))
          have hS := hS.tr w.1
          have hB := w.2
          obtain ⟨M3, eM3, h⟩ := bd h
          have w := z2w (z_pF hB eM3 (by decide))
          have hS := hS.tr w.1
          have hB := w.2
          obtain ⟨M4, eM4, h⟩ := bd h
          have w := z2w (z_pF hB eM4 (by decide))
          have hS := hS.tr w.1
          have hB := w.2
          obtain ⟨M5, eM5, h⟩ := bd h
          have w := z2w (z_pF hB eM5 (by decide))
          have hS := hS.tr w.1
          have hB := w.2
          obtain ⟨v6, ev6, h⟩ := bd h
          obtain ⟨M7, eM7, h⟩ := bd h
          have w := z2w (z_pF hB eM7 (by decide))
          have hS := hS.tr w.1
          have hB := w.2
          obtain ⟨v8, ev8, h⟩ := bd h
          obtain ⟨M9, eM9, h⟩ := bd h
          have w := z2w (z_pF hB eM9 (by decide))
          have hS := hS.tr w.1
          have hB := w.2
          obtain ⟨v10, ev10, h⟩ := bd h
          obtain ⟨M11, eM11, h⟩ := bd h
          have w := z2w (z_pF hB eM11 (by decide))
          have hS := hS.tr w.1
          have hB := w.2
          have z := uwX16_fragment_L161 fu   fu a0 a1 a2 a3 a4 a5 a6 a9 (0 : Int32) M11 hB ra0 h
          exact ⟨hS.tr z.1, z.2⟩
      · have h := (if_neg hc).symm.trans h
        have z := uwX16_fragment_L184 fu   a0 a1 a2 a3 a4 a5 a6 a8 M hB ra0 h
        exact ⟨hS.tr z.1, z.2⟩
    · have h := (if_neg hc).symm.trans h
      obtain ⟨v12, ev12, h⟩ := bd h
      obtain ⟨v13, ev13, h⟩ := bd h
      obtain ⟨v14, ev14, h⟩ := bd h
      by_cases hc : v14 = 0
      · have h := (if_pos hc).symm.trans h
        have z := uwX16_fragment_L78 fu (fun b0 b1 b2 b3 b4 b5 b6 b7 b8 b9 b10 M => fX16_fragment_L17 fu  n b0 b1 b2 b3 b4 b5 b6 b7 b8 b9 b10 M) ih a0 a1 a2 a3 a4 a5 a6 a7 a8 v13 a10 M hB ra0 h
        exact ⟨hS.tr z.1, z.2⟩
      · have h := (if_neg hc).symm.trans h
        obtain ⟨v15, ev15, h⟩ := bd h
        by_cases hc : v15 = a1
        · have h := (if_pos hc).symm.trans h
          obtain ⟨v16, ev16, h⟩ := bd h
          by_cases hc : v16 = a7
          · have h := (if_pos hc).symm.trans h
            obtain ⟨v17, ev17, h⟩ := bd h
            by_cases hc : v17 = a2
            · have h := (if_pos hc).symm.trans h
              have z := uwX16_fragment_L78 fu (fun b0 b1 b2 b3 b4 b5 b6 b7 b8 b9 b10 M => fX16_fragment_L17 fu  n b0 b1 b2 b3 b4 b5 b6 b7 b8 b9 b10 M) ih a0 a1 a2 a3 a4 a5 a6 a7 v13 a9 a10 M hB ra0 h
              exact ⟨hS.tr z.1, z.2⟩
            · have h := (if_neg hc).symm.trans h
              have z := uwX16_fragment_L78 fu (fun b0 b1 b2 b3 b4 b5 b6 b7 b8 b9 b10 M => fX16_fragment_L17 fu  n b0 b1 b2 b3 b4 b5 b6 b7 b8 b9 b10 M) ih a0 a1 a2 a3 a4 a5 a6 a7 a8 a9 a10 M hB ra0 h
              exact ⟨hS.tr z.1, z.2⟩
          · have h := (if_neg hc).symm.trans h
            have z := uwX16_fragment_L78 fu (fun b0 b1 b2 b3 b4 b5 b6 b7 b8 b9 b10 M => fX16_fragment_L17 fu  n b0 b1 b2 b3 b4 b5 b6 b7 b8 b9 b10 M) ih a0 a1 a2 a3 a4 a5 a6 a7 a8 a9 a10 M hB ra0 h
            exact ⟨hS.tr z.1, z.2⟩
        · have h := (if_neg hc).symm.trans h
          have z := uwX16_fragment_L78 fu (fun b0 b1 b2 b3 b4 b5 b6 b7 b8 b9 b10 M => fX16_fragment_L17 fu  n b0 b1 b2 b3 b4 b5 b6 b7 b8 b9 b10 M) ih a0 a1 a2 a3 a4 a5 a6 a7 a8 a9 a10 M hB ra0 h
          exact ⟨hS.tr z.1, z.2⟩
theorem uwX16_fragment (fu : Nat)   (a0 : Nat) (a1 : Int32) (a2 : Int32) (a3 : Int32) (a4 : Int32) (a5 : Int32) (a6 : Int32)  (M : Mm) {out : Mm} (hB : RW M) (ra0 : a0 = 323) (h : fX16_fragment fu  a0 a1 a2 a3 a4 a5 a6 M = some out) : Zw M out ∧ RW out := by
  unfold fX16_fragment at h
  have hS : Zw M M := Zw.rf
  obtain ⟨q1, eq1, h⟩ := bd h
  have rq1 := z_rc (z_some ra0) eq1
  obtain ⟨v3, M2, eM2, h⟩ := b2d h
  have w := z2w (zX16_trayHalf fu q1 (18 : Int32) M hB rq1 eM2)
  have hS := hS.tr w.1
  have hB := w.2
  have z := uwX16_fragment_L17 fu   fu a0 a1 a2 a3 a4 a5 a6 v3 none none (3 : Int32) M2 hB ra0 h
  exact ⟨hS.tr z.1, z.2⟩
theorem uwX16_ipIn_L274 (fu : Nat)   (a0 : Nat) (a2 : Int32) (a4 : Int32) (a5 : Int32) (a6 : Int32) (a7 : Int32) (a8 : Int32)  (M : Mm) {out : Mm} (hB : RW M) (ra0 : a0 = 323) (h : fX16_ipIn_L274 fu  a0 a2 a4 a5 a6 a7 a8 M = some out) : Zw M out ∧ RW out := by
  unfold fX16_ipIn_L274 at h
  have hS : Zw M M := Zw.rf
  by_cases hc : (a5 + a7) ≤ (4096 : Int32)
  · have h := (if_pos hc).symm.trans h
    obtain ⟨q1, eq1, h⟩ := bd h
    have rq1 := z_rc (z_some ra0) eq1
    obtain ⟨M2, eM2, h⟩ := bd h
    have w := uwX16_fragment fu q1 a4 a8 a5 ((14 : Int32) + a2) a7 a6 M hB rq1 eM2
    have hS := hS.tr w.1
    have hB := w.2
    obtain rfl := Option.some.inj h
    exact ⟨hS, hB⟩
  · have h := (if_neg hc).symm.trans h
    obtain rfl := Option.some.inj h
    exact ⟨hS, hB⟩
theorem uwX16_ipIn_L256 (fu : Nat)   (a0 : Nat) (a2 : Int32) (a4 : Int32) (a5 : Int32) (a6 : Int32) (a7 : Int32) (a8 : Int32)  (M : Mm) {out : Mm} (hB : RW M) (ra0 : a0 = 323) (h : fX16_ipIn_L256 fu  a0 a2 a4 a5 a6 a7 a8 M = some out) : Zw M out ∧ RW out := by
  unfold fX16_ipIn_L256 at h
  have hS : Zw M M := Zw.rf
  by_cases hc : a6 = 0
  · have h := (if_pos hc).symm.trans h
    have z := uwX16_ipIn_L274 fu   a0 a2 a4 a5 a6 a7 a8 M hB ra0 h
    exact ⟨hS.tr z.1, z.2⟩
  · have h := (if_neg hc).symm.trans h
    by_cases hc : a7 = 0
    · have h := (if_pos hc).symm.trans h
      obtain rfl := Option.some.inj h
      exact ⟨hS, hB⟩
    · have h := (if_neg hc).symm.trans h
      by_cases hc : (irm a7 (8 : Int32)) = 0
      · have h := (if_pos hc).symm.trans h
        have z := uwX16_ipIn_L274 fu   a0 a2 a4 a5 a6 a7 a8 M hB ra0 h
        exact ⟨hS.tr z.1, z.2⟩
      · have h := (if_neg hc).symm.trans h
        obtain rfl := Option.some.inj h
        exact ⟨hS, hB⟩
theorem uwX16_ipIn_L209 (fu : Nat) {out : Mm}   : ∀ (n : Nat) (a0 : Nat) (a2 : Int32) (a4 : Int32) (a7 : Int32) (a8 : Int32) (a9 : Int32)  (M : Mm), RW M → a0 = 323 → fX16_ipIn_L209 fu  n a0 a2 a4 a7 a8 a9 M = some out → Zw M out ∧ RW out := by
  intro n
  induction n with
  | zero =>
    intro a0 a2 a4 a7 a8 a9 M hB ra0 h
    have h : (none : Option (Mm)) = some out := h
    cases h
  | succ n ih =>
    intro a0 a2 a4 a7 a8 a9 M hB ra0 h
    rw [fX16_ipIn_L209] at h
    have hS : Zw M M := Zw.rf
    by_cases hc : a7 ≤ a9
    · have h := (if_pos hc).symm.trans h
      obtain ⟨M1, eM1, h⟩ := bd h
      have w := z2w (z_pF hB eM1 (by decide))
      have hS := hS.tr w.1
      have hB := w.2
      obtain ⟨q2, eq2, h⟩ := bd h
      have rq2 := z_rc (z_some ra0) eq2
      obtain ⟨M3, eM3, h⟩ := bd h
      have w := uwX16_taken fu q2 a8 a7 M1 hB rq2 eM3
      have hS := hS.tr w.1
      have hB := w.2
      obtain rfl := Option.some.inj h
      exact ⟨hS, hB⟩
    · have h := (if_neg hc).symm.trans h
      obtain ⟨v4, ev4, h⟩ := bd h
      obtain ⟨v5, ev5, h⟩ := bd h
      obtain ⟨v6, ev6, h⟩ := bd h
      obtain ⟨M7, eM7, h⟩ := bd h
      have w := z2w (z_pA hB (by decide) eM7)
      have hS := hS.tr w.1
      have hB := w.2
      have z := ih a0 a2 a4 a7 a8 (a9 + (1 : Int32)) M7 hB ra0 h
      exact ⟨hS.tr z.1, z.2⟩
theorem uwX16_ipIn_L157 (fu : Nat)   (a0 : Nat) (a2 : Int32) (a3 : Int32) (a4 : Int32) (a5 : Int32) (s0 : Int32) (M : Mm) {out : Mm} (hB : RW M) (ra0 : a0 = 323) (h : fX16_ipIn_L157 fu  a0 a2 a3 a4 a5 s0 M = some out) : Zw M out ∧ RW out := by
  unfold fX16_ipIn_L157 at h
  have hS : Zw M M := Zw.rf
  obtain ⟨v1, ev1, h⟩ := bd h
  obtain ⟨v2, ev2, h⟩ := bd h
  by_cases hc : s0 = 0
  · have h := (if_pos hc).symm.trans h
    by_cases hc : a5 = 0
    · have h := (if_pos hc).symm.trans h
      by_cases hc : (a3 - a2) ≤ (4096 : Int32)
      · have h := (if_pos hc).symm.trans h
        have z := uwX16_ipIn_L209 fu   fu a0 a2 a4 (a3 - a2) (v2 &&& (255 : Int32)) (0 : Int32) M hB ra0 h
        exact ⟨hS.tr z.1, z.2⟩
      · have h := (if_neg hc).symm.trans h
        obtain ⟨v3, ev3, h⟩ := bd h
        obtain ⟨M4, eM4, h⟩ := bd h
        have w := z2w (z_pF hB eM4 (by decide))
        have hS := hS.tr w.1
        have hB := w.2
        obtain rfl := Option.some.inj h
        exact ⟨hS, hB⟩
    · have h := (if_neg hc).symm.trans h
      have z := uwX16_ipIn_L256 fu   a0 a2 a4 a5 s0 (a3 - a2) (v2 &&& (255 : Int32)) M hB ra0 h
      exact ⟨hS.tr z.1, z.2⟩
  · have h := (if_neg hc).symm.trans h
    have z := uwX16_ipIn_L256 fu   a0 a2 a4 a5 s0 (a3 - a2) (v2 &&& (255 : Int32)) M hB ra0 h
    exact ⟨hS.tr z.1, z.2⟩
theorem uwX16_ipIn (fu : Nat)   (a0 : Nat)  (M : Mm) {out : Mm} (hB : RW M) (ra0 : a0 = 323) (h : fX16_ipIn fu  a0 M = some out) : Zw M out ∧ RW out := by
  unfold fX16_ipIn at h
  have hS : Zw M M := Zw.rf
  obtain ⟨v1, ev1, h⟩ := bd h
  by_cases hc : (v1 - (14 : Int32)) < (20 : Int32)
  · have h := (if_pos hc).symm.trans h
    obtain rfl := Option.some.inj h
    exact ⟨hS, hB⟩
  · have h := (if_neg hc).symm.trans h
    obtain ⟨v2, ev2, h⟩ := bd h
    obtain ⟨v3, ev3, h⟩ := bd h
    by_cases hc : (v3 &&& (240 : Int32)) = (64 : Int32)
    · have h := (if_pos hc).symm.trans h
      obtain ⟨v4, ev4, h⟩ := bd h
      obtain ⟨v5, ev5, h⟩ := bd h
      obtain ⟨q6, eq6, h⟩ := bd h
      have rq6 := z_rc (z_some ra0) eq6
      obtain ⟨v8, M7, eM7, h⟩ := b2d h
      have w := z2w (zX16_trayHalf fu q6 (16 : Int32) M hB rq6 eM7)
      have hS := hS.tr w.1
      have hB := w.2
      by_cases hc : ((4 : Int32) * (v5 &&& (15 : Int32))) < (20 : Int32)
      · have h := (if_pos hc).symm.trans h
        obtain rfl := Option.some.inj h
        exact ⟨hS, hB⟩
      · have h := (if_neg hc).symm.trans h
        by_cases hc : v8 < ((4 : Int32) * (v5 &&& (15 : Int32)))
        · have h := (if_pos hc).symm.trans h
          obtain rfl := Option.some.inj h
          exact ⟨hS, hB⟩
        · have h := (if_neg hc).symm.trans h
          by_cases hc : (v1 - (14 : Int32)) < v8
          · have h := (if_pos hc).symm.trans h
            obtain rfl := Option.some.inj h
            exact ⟨hS, hB⟩
          · have h := (if_neg hc).symm.trans h
            obtain ⟨v9, ev9, h⟩ := bd h
            obtain ⟨v11, M10, eM10, h⟩ := b2d h
            have w := z2w (zX16_added fu  v9 (14 : Int32) ((4 : Int32) * (v5 &&& (15 : Int32))) (0 : Int64) M7 hB  eM10)
            have hS := hS.tr w.1
            have hB := w.2
            obtain ⟨v13, M12, eM12, h⟩ := b2d h
            have w := z2w (zX16_sixteen fu  v11 M10 hB  eM12)
            have hS := hS.tr w.1
            have hB := w.2
            by_cases hc : v13 = 0
            · have h := (if_pos hc).symm.trans h
              obtain ⟨q14, eq14, h⟩ := bd h
              have rq14 := z_rc (z_some ra0) eq14
              obtain ⟨v16, M15, eM15, h⟩ := b2d h
              have w := z2w (zX16_trayWord fu q14 (26 : Int32) M12 hB rq14 eM15)
              have hS := hS.tr w.1
              have hB := w.2
              obtain ⟨q17, eq17, h⟩ := bd h
              have rq17 := z_rc (z_some ra0) eq17
              obtain ⟨v19, M18, eM18, h⟩ := b2d h
              have w := z2w (zX16_trayWord fu q17 (30 : Int32) M15 hB rq17 eM18)
              have hS := hS.tr w.1
              have hB := w.2
              obtain ⟨v20, ev20, h⟩ := bd h
              by_cases hc : v19 = v20
              · have h := (if_pos hc).symm.trans h
                obtain ⟨v21, ev21, h⟩ := bd h
                by_cases hc : v16 = v21
                · have h := (if_pos hc).symm.trans h
                  obtain rfl := Option.some.inj h
                  exact ⟨hS, hB⟩
                · have h := (if_neg hc).symm.trans h
                  obtain ⟨v23, M22, eM22, h⟩ := b2d h
                  have w := z2w (zX16_isHost fu  v16 M18 hB  eM22)
                  have hS := hS.tr w.1
                  have hB := w.2
                  by_cases hc : v23 = 0
                  · have h := (if_pos hc).symm.trans h
                    obtain rfl := Option.some.inj h
                    exact ⟨hS, hB⟩
                  · have h := (if_neg hc).symm.trans h
                    obtain ⟨q24, eq24, h⟩ := bd h
                    have rq24 := z_rc (z_some ra0) eq24
                    obtain ⟨v26, M25, eM25, h⟩ := b2d h
                    have w := z2w (zX16_trayHalf fu q24 (20 : Int32) M22 hB rq24 eM25)
                    have hS := hS.tr w.1
                    have hB := w.2
                    obtain ⟨q27, eq27, h⟩ := bd h
                    have rq27 := z_rc (z_some ra0) eq27
                    obtain ⟨v29, M28, eM28, h⟩ := b2d h
                    have w := z2w (zX16_trayHalf fu q27 (20 : Int32) M25 hB rq27 eM28)
                    have hS := hS.tr w.1
                    have hB := w.2
                    by_cases hc : (v29 &&& (8192 : Int32)) = 0
                    · have h := (if_pos hc).symm.trans h
                      have z := uwX16_ipIn_L157 fu   a0 ((4 : Int32) * (v5 &&& (15 : Int32))) v8 v16 ((8 : Int32) * (v26 &&& (8191 : Int32))) (0 : Int32) M28 hB ra0 h
                      exact ⟨hS.tr z.1, z.2⟩
                    · have h := (if_neg hc).symm.trans h
                      have z := uwX16_ipIn_L157 fu   a0 ((4 : Int32) * (v5 &&& (15 : Int32))) v8 v16 ((8 : Int32) * (v26 &&& (8191 : Int32))) (1 : Int32) M28 hB ra0 h
                      exact ⟨hS.tr z.1, z.2⟩
              · have h := (if_neg hc).symm.trans h
                obtain rfl := Option.some.inj h
                exact ⟨hS, hB⟩
            · have h := (if_neg hc).symm.trans h
              obtain rfl := Option.some.inj h
              exact ⟨hS, hB⟩
    · have h := (if_neg hc).symm.trans h
      obtain rfl := Option.some.inj h
      exact ⟨hS, hB⟩
theorem uwX16_frameIn_L74 (fu : Nat)   (a0 : Nat)  (M : Mm) {out : Mm} (hB : RW M) (ra0 : a0 = 323) (h : fX16_frameIn_L74 fu  a0 M = some out) : Zw M out ∧ RW out := by
  unfold fX16_frameIn_L74 at h
  have hS : Zw M M := Zw.rf
  obtain ⟨q1, eq1, h⟩ := bd h
  have rq1 := z_rc (z_some ra0) eq1
  obtain ⟨v3, M2, eM2, h⟩ := b2d h
  have w := z2w (zX16_trayHalf fu q1 (12 : Int32) M hB rq1 eM2)
  have hS := hS.tr w.1
  have hB := w.2
  by_cases hc : v3 = (2054 : Int32)
  · have h := (if_pos hc).symm.trans h
    obtain ⟨q9, eq9, h⟩ := bd h
    have rq9 := z_rc (z_some ra0) eq9
    obtain ⟨M10, eM10, h⟩ := bd h
    have w := z2w (zX16_arp fu q9  M2 hB rq9 eM10)
    have hS := hS.tr w.1
    have hB := w.2
    obtain rfl := Option.some.inj h
    exact ⟨hS, hB⟩
  · have h := (if_neg hc).symm.trans h
    obtain ⟨q4, eq4, h⟩ := bd h
    have rq4 := z_rc (z_some ra0) eq4
    obtain ⟨v6, M5, eM5, h⟩ := b2d h
    have w := z2w (zX16_trayHalf fu q4 (12 : Int32) M2 hB rq4 eM5)
    have hS := hS.tr w.1
    have hB := w.2
    by_cases hc : v6 = (2048 : Int32)
    · have h := (if_pos hc).symm.trans h
      obtain ⟨q7, eq7, h⟩ := bd h
      have rq7 := z_rc (z_some ra0) eq7
      obtain ⟨M8, eM8, h⟩ := bd h
      have w := uwX16_ipIn fu q7  M5 hB rq7 eM8
      have hS := hS.tr w.1
      have hB := w.2
      obtain rfl := Option.some.inj h
      exact ⟨hS, hB⟩
    · have h := (if_neg hc).symm.trans h
      obtain rfl := Option.some.inj h
      exact ⟨hS, hB⟩
theorem uwX16_frameIn_L64 (fu : Nat)   (a0 : Nat) (a1 : Int32) (s0 : Int32) (M : Mm) {out : Mm} (hB : RW M) (ra0 : a0 = 323) (h : fX16_frameIn_L64 fu  a0 a1 s0 M = some out) : Zw M out ∧ RW out := by
  unfold fX16_frameIn_L64 at h
  have hS : Zw M M := Zw.rf
  by_cases hc : a1 = 0
  · have h := (if_pos hc).symm.trans h
    by_cases hc : s0 = 0
    · have h := (if_pos hc).symm.trans h
      obtain rfl := Option.some.inj h
      exact ⟨hS, hB⟩
    · have h := (if_neg hc).symm.trans h
      have z := uwX16_frameIn_L74 fu   a0 M hB ra0 h
      exact ⟨hS.tr z.1, z.2⟩
  · have h := (if_neg hc).symm.trans h
    have z := uwX16_frameIn_L74 fu   a0 M hB ra0 h
    exact ⟨hS.tr z.1, z.2⟩
theorem uwX16_frameIn_L63 (fu : Nat)   (a0 : Nat) (a1 : Int32)  (M : Mm) {out : Mm} (hB : RW M) (ra0 : a0 = 323) (h : fX16_frameIn_L63 fu  a0 a1 M = some out) : Zw M out ∧ RW out := by
  unfold fX16_frameIn_L63 at h
  have hS : Zw M M := Zw.rf
  have z := uwX16_frameIn_L64 fu   a0 a1 (0 : Int32) M hB ra0 h
  exact ⟨hS.tr z.1, z.2⟩
theorem uwX16_frameIn_L39 (fu : Nat)   (a0 : Nat) (s0 : Int32) (M : Mm) {out : Mm} (hB : RW M) (ra0 : a0 = 323) (h : fX16_frameIn_L39 fu  a0 s0 M = some out) : Zw M out ∧ RW out := by
  unfold fX16_frameIn_L39 at h
  have hS : Zw M M := Zw.rf
  obtain ⟨q1, eq1, h⟩ := bd h
  have rq1 := z_rc (z_some ra0) eq1
  obtain ⟨v3, M2, eM2, h⟩ := b2d h
  have w := z2w (zX16_trayHalf fu q1 (0 : Int32) M hB rq1 eM2)
  have hS := hS.tr w.1
  have hB := w.2
  by_cases hc : v3 = (65535 : Int32)
  · have h := (if_pos hc).symm.trans h
    obtain ⟨q4, eq4, h⟩ := bd h
    have rq4 := z_rc (z_some ra0) eq4
    obtain ⟨v6, M5, eM5, h⟩ := b2d h
    have w := z2w (zX16_trayWord fu q4 (2 : Int32) M2 hB rq4 eM5)
    have hS := hS.tr w.1
    have hB := w.2
    by_cases hc : v6 = (-1 : Int32)
    · have h := (if_pos hc).symm.trans h
      have z := uwX16_frameIn_L64 fu   a0 s0 (1 : Int32) M5 hB ra0 h
      exact ⟨hS.tr z.1, z.2⟩
    · have h := (if_neg hc).symm.trans h
      have z := uwX16_frameIn_L63 fu   a0 s0 M5 hB ra0 h
      exact ⟨hS.tr z.1, z.2⟩
  · have h := (if_neg hc).symm.trans h
    have z := uwX16_frameIn_L63 fu   a0 s0 M2 hB ra0 h
    exact ⟨hS.tr z.1, z.2⟩
theorem uwX16_frameIn_L38 (fu : Nat)   (a0 : Nat)  (M : Mm) {out : Mm} (hB : RW M) (ra0 : a0 = 323) (h : fX16_frameIn_L38 fu  a0 M = some out) : Zw M out ∧ RW out := by
  unfold fX16_frameIn_L38 at h
  have hS : Zw M M := Zw.rf
  have z := uwX16_frameIn_L39 fu   a0 (0 : Int32) M hB ra0 h
  exact ⟨hS.tr z.1, z.2⟩
theorem uwX16_frameIn (fu : Nat)   (a0 : Nat)  (M : Mm) {out : Mm} (hB : RW M) (ra0 : a0 = 323) (h : fX16_frameIn fu  a0 M = some out) : Zw M out ∧ RW out := by
  unfold fX16_frameIn at h
  have hS : Zw M M := Zw.rf
  obtain ⟨v1, ev1, h⟩ := bd h
  by_cases hc : (14 : Int32) ≤ v1
  · have h := (if_pos hc).symm.trans h
    obtain ⟨q2, eq2, h⟩ := bd h
    have rq2 := z_rc (z_some ra0) eq2
    obtain ⟨v4, M3, eM3, h⟩ := b2d h
    have w := z2w (zX16_trayHalf fu q2 (0 : Int32) M hB rq2 eM3)
    have hS := hS.tr w.1
    have hB := w.2
    obtain ⟨v5, ev5, h⟩ := bd h
    by_cases hc : v4 = v5
    · have h := (if_pos hc).symm.trans h
      obtain ⟨q6, eq6, h⟩ := bd h
      have rq6 := z_rc (z_some ra0) eq6
      obtain ⟨v8, M7, eM7, h⟩ := b2d h
      have w := z2w (zX16_trayWord fu q6 (2 : Int32) M3 hB rq6 eM7)
      have hS := hS.tr w.1
      have hB := w.2
      obtain ⟨v9, ev9, h⟩ := bd h
      by_cases hc : v8 = v9
      · have h := (if_pos hc).symm.trans h
        have z := uwX16_frameIn_L39 fu   a0 (1 : Int32) M7 hB ra0 h
        exact ⟨hS.tr z.1, z.2⟩
      · have h := (if_neg hc).symm.trans h
        have z := uwX16_frameIn_L38 fu   a0 M7 hB ra0 h
        exact ⟨hS.tr z.1, z.2⟩
    · have h := (if_neg hc).symm.trans h
      have z := uwX16_frameIn_L38 fu   a0 M3 hB ra0 h
      exact ⟨hS.tr z.1, z.2⟩
  · have h := (if_neg hc).symm.trans h
    obtain rfl := Option.some.inj h
    exact ⟨hS, hB⟩
theorem uwX16_arrive (fu : Nat)   (a0 : Nat) (a1 : Int32)  (M : Mm) {out : Int32 × Mm} (hB : RW M) (ra0 : a0 = 323) (h : fX16_arrive fu  a0 a1 M = some out) : Zw M out.2 ∧ RW out.2 := by
  unfold fX16_arrive at h
  have hS : Zw M M := Zw.rf
  obtain ⟨q1, eq1, h⟩ := bd h
  have rq1 := z_rc (z_some ra0) eq1
  obtain ⟨v3, M2, eM2, h⟩ := b2d h
  have w := z2w (zX16_refused fu q1 a1 M hB rq1 eM2)
  have hS := hS.tr w.1
  have hB := w.2
  by_cases hc : 0 ≤ v3
  · have h := (if_pos hc).symm.trans h
    obtain ⟨v4, ev4, h⟩ := bd h
    by_cases hc : v4 = 0
    · have h := (if_pos hc).symm.trans h
      obtain rfl := Option.some.inj h
      exact ⟨hS, hB⟩
    · have h := (if_neg hc).symm.trans h
      obtain ⟨v5, ev5, h⟩ := bd h
      by_cases hc : v5 ≤ (1514 : Int32)
      · have h := (if_pos hc).symm.trans h
        obtain ⟨v6, ev6, h⟩ := bd h
        obtain ⟨q7, eq7, h⟩ := bd h
        have rq7 := z_rc (z_some ra0) eq7
        obtain ⟨M8, eM8, h⟩ := bd h
        have w := z2w (zX16_passTo fu q7 a1 M2 hB rq7 eM8)
        have hS := hS.tr w.1
        have hB := w.2
        obtain ⟨v9, ev9, h⟩ := bd h
        obtain ⟨v10, ev10, h⟩ := bd h
        obtain ⟨M11, eM11, h⟩ := bd h
        have w := z2w (z_pI hB eM11 (by decide))
        have hS := hS.tr w.1
        have hB := w.2
        obtain ⟨q12, eq12, h⟩ := bd h
        have rq12 := z_rc (z_some ra0) eq12
        obtain ⟨M13, eM13, h⟩ := bd h
        have w := uwX16_frameIn fu q12  M11 hB rq12 eM13
        have hS := hS.tr w.1
        have hB := w.2
        obtain ⟨M14, eM14, h⟩ := bd h
        have w := z2w (z_pF hB eM14 (by decide))
        have hS := hS.tr w.1
        have hB := w.2
        obtain ⟨v15, ev15, h⟩ := bd h
        obtain rfl := Option.some.inj h
        exact ⟨hS, hB⟩
      · have h := (if_neg hc).symm.trans h
        obtain rfl := Option.some.inj h
        exact ⟨hS, hB⟩
  · have h := (if_neg hc).symm.trans h
    obtain rfl := Option.some.inj h
    exact ⟨hS, hB⟩
