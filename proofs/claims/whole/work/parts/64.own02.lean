/-! ===== whose cells are written, printed by a program of ours ===== -/
theorem oX16_files_L376 (fu : Nat) {out : Int32 × Mm} (k151 : Nat → Int32 → Int32 → Mm → Option (Int32 × Mm)) (k319 : Nat → Int32 → Int32 → Int32 → Int32 → Mm → Option (Int32 × Mm)) (k331 : Nat → Int32 → Int32 → Int32 → Int32 → Int32 → Int32 → Mm → Option (Int32 × Mm)) (hk151 : ∀ (b0 : Nat) (b1 : Int32) (b2 : Int32)  (M : Mm), Bd RM TM M → RM b0 → k151 b0 b1 b2 M = some out → Sm RM M out.2 ∧ Bd RM TM out.2) (hk319 : ∀ (b0 : Nat) (b1 : Int32) (b2 : Int32) (b3 : Int32) (b5 : Int32)  (M : Mm), Bd RM TM M → RM b0 → k319 b0 b1 b2 b3 b5 M = some out → Sm RM M out.2 ∧ Bd RM TM out.2) (hk331 : ∀ (b0 : Nat) (b1 : Int32) (b2 : Int32) (b3 : Int32) (b5 : Int32) (b6 : Int32) (b7 : Int32)  (M : Mm), Bd RM TM M → RM b0 → k331 b0 b1 b2 b3 b5 b6 b7 M = some out → Sm RM M out.2 ∧ Bd RM TM out.2) (a0 : Nat) (a1 : Int32) (a2 : Int32) (a3 : Int32) (a5 : Int32) (a7 : Int32) (s0 : Int32) (M : Mm) (hB : Bd RM TM M) (ra0 : RM a0) (h : fX16_files_L376 fu k151 k319 k331 a0 a1 a2 a3 a5 a7 s0 M = some out) : Sm RM M out.2 ∧ Bd RM TM out.2 := by
  unfold fX16_files_L376 at h
  have hS : Sm RM M M := Sm.rf
  have z := hk331 a0 a1 a2 a3 a5 s0 (a7 + (1 : Int32)) M hB ra0 h
  exact ⟨hS.tr z.1, z.2⟩
theorem oX16_files_L375 (fu : Nat) {out : Int32 × Mm} (k151 : Nat → Int32 → Int32 → Mm → Option (Int32 × Mm)) (k319 : Nat → Int32 → Int32 → Int32 → Int32 → Mm → Option (Int32 × Mm)) (k331 : Nat → Int32 → Int32 → Int32 → Int32 → Int32 → Int32 → Mm → Option (Int32 × Mm)) (hk151 : ∀ (b0 : Nat) (b1 : Int32) (b2 : Int32)  (M : Mm), Bd RM TM M → RM b0 → k151 b0 b1 b2 M = some out → Sm RM M out.2 ∧ Bd RM TM out.2) (hk319 : ∀ (b0 : Nat) (b1 : Int32) (b2 : Int32) (b3 : Int32) (b5 : Int32)  (M : Mm), Bd RM TM M → RM b0 → k319 b0 b1 b2 b3 b5 M = some out → Sm RM M out.2 ∧ Bd RM TM out.2) (hk331 : ∀ (b0 : Nat) (b1 : Int32) (b2 : Int32) (b3 : Int32) (b5 : Int32) (b6 : Int32) (b7 : Int32)  (M : Mm), Bd RM TM M → RM b0 → k331 b0 b1 b2 b3 b5 b6 b7 M = some out → Sm RM M out.2 ∧ Bd RM TM out.2) (a0 : Nat) (a1 : Int32) (a2 : Int32) (a3 : Int32) (a5 : Int32) (a7 : Int32)  (M : Mm) (hB : Bd RM TM M) (ra0 : RM a0) (h : fX16_files_L375 fu k151 k319 k331 a0 a1 a2 a3 a5 a7 M = some out) : Sm RM M out.2 ∧ Bd RM TM out.2 := by
  unfold fX16_files_L375 at h
  have hS : Sm RM M M := Sm.rf
  have z := oX16_files_L376 fu k151 k319 k331 hk151 hk319 hk331 a0 a1 a2 a3 a5 a7 (0 : Int32) M hB ra0 h
  exact ⟨hS.tr z.1, z.2⟩
theorem oX16_files_L331 (fu : Nat) {out : Int32 × Mm} (k151 : Nat → Int32 → Int32 → Mm → Option (Int32 × Mm)) (k319 : Nat → Int32 → Int32 → Int32 → Int32 → Mm → Option (Int32 × Mm)) (hk151 : ∀ (b0 : Nat) (b1 : Int32) (b2 : Int32)  (M : Mm), Bd RM TM M → RM b0 → k151 b0 b1 b2 M = some out → Sm RM M out.2 ∧ Bd RM TM out.2) (hk319 : ∀ (b0 : Nat) (b1 : Int32) (b2 : Int32) (b3 : Int32) (b5 : Int32)  (M : Mm), Bd RM TM M → RM b0 → k319 b0 b1 b2 b3 b5 M = some out → Sm RM M out.2 ∧ Bd RM TM out.2) : ∀ (n : Nat) (a0 : Nat) (a1 : Int32) (a2 : Int32) (a3 : Int32) (a5 : Int32) (a6 : Int32) (a7 : Int32)  (M : Mm), Bd RM TM M → RM a0 → fX16_files_L331 fu k151 k319 n a0 a1 a2 a3 a5 a6 a7 M = some out → Sm RM M out.2 ∧ Bd RM TM out.2 := by
  intro n
  induction n with
  | zero =>
    intro a0 a1 a2 a3 a5 a6 a7 M hB ra0 h
    have h : (none : Option (Int32 × Mm)) = some out := h
    cases h
  | succ n ih =>
    intro a0 a1 a2 a3 a5 a6 a7 M hB ra0 h
    rw [fX16_files_L331] at h
    have hS : Sm RM M M := Sm.rf
    by_cases hc : (48 : Int32) ≤ a7
    · have h := (if_pos hc).symm.trans h
      by_cases hc : a6 = 0
      · have h := (if_pos hc).symm.trans h
        have z := hk319 a0 a1 a2 a3 (a5 + (1 : Int32)) M hB ra0 h
        exact ⟨hS.tr z.1, z.2⟩
      · have h := (if_neg hc).symm.trans h
        obtain rfl := Option.some.inj h
        exact ⟨hS, hB⟩
    · have h := (if_neg hc).symm.trans h
      by_cases hc : a6 = 0
      · have h := (if_pos hc).symm.trans h
        have z := oX16_files_L375 fu k151 k319 (fun b0 b1 b2 b3 b5 b6 b7 M => fX16_files_L331 fu k151 k319 n b0 b1 b2 b3 b5 b6 b7 M) hk151 hk319 ih a0 a1 a2 a3 a5 a7 M hB ra0 h
        exact ⟨hS.tr z.1, z.2⟩
      · have h := (if_neg hc).symm.trans h
        obtain ⟨v1, ev1, h⟩ := bd h
        have iv1 := gR_in hB (show 12 ≤ 16 ∧ 16 ≤ 16 from by decide) ev1
        obtain ⟨v2, ev2, h⟩ := bd h
        obtain ⟨v3, ev3, h⟩ := bd h
        have iv3 := gR_in hB (show 12 ≤ 16 ∧ 16 ≤ 16 from by decide) ev3
        obtain ⟨v4, ev4, h⟩ := bd h
        by_cases hc : v2 = v4
        · have h := (if_pos hc).symm.trans h
          have z := oX16_files_L376 fu k151 k319 (fun b0 b1 b2 b3 b5 b6 b7 M => fX16_files_L331 fu k151 k319 n b0 b1 b2 b3 b5 b6 b7 M) hk151 hk319 ih a0 a1 a2 a3 a5 a7 (1 : Int32) M hB ra0 h
          exact ⟨hS.tr z.1, z.2⟩
        · have h := (if_neg hc).symm.trans h
          have z := oX16_files_L375 fu k151 k319 (fun b0 b1 b2 b3 b5 b6 b7 M => fX16_files_L331 fu k151 k319 n b0 b1 b2 b3 b5 b6 b7 M) hk151 hk319 ih a0 a1 a2 a3 a5 a7 M hB ra0 h
          exact ⟨hS.tr z.1, z.2⟩
theorem oX16_files_L319 (fu : Nat) {out : Int32 × Mm} (k151 : Nat → Int32 → Int32 → Mm → Option (Int32 × Mm)) (hk151 : ∀ (b0 : Nat) (b1 : Int32) (b2 : Int32)  (M : Mm), Bd RM TM M → RM b0 → k151 b0 b1 b2 M = some out → Sm RM M out.2 ∧ Bd RM TM out.2) : ∀ (n : Nat) (a0 : Nat) (a1 : Int32) (a2 : Int32) (a3 : Int32) (a5 : Int32)  (M : Mm), Bd RM TM M → RM a0 → fX16_files_L319 fu k151 n a0 a1 a2 a3 a5 M = some out → Sm RM M out.2 ∧ Bd RM TM out.2 := by
  intro n
  induction n with
  | zero =>
    intro a0 a1 a2 a3 a5 M hB ra0 h
    have h : (none : Option (Int32 × Mm)) = some out := h
    cases h
  | succ n ih =>
    intro a0 a1 a2 a3 a5 M hB ra0 h
    rw [fX16_files_L319] at h
    have hS : Sm RM M M := Sm.rf
    by_cases hc : a2 ≤ a5
    · have h := (if_pos hc).symm.trans h
      have z := hk151 a0 a1 (a2 + (1 : Int32)) M hB ra0 h
      exact ⟨hS.tr z.1, z.2⟩
    · have h := (if_neg hc).symm.trans h
      have z := oX16_files_L331 fu k151 (fun b0 b1 b2 b3 b5 M => fX16_files_L319 fu k151 n b0 b1 b2 b3 b5 M) hk151 ih fu a0 a1 a2 a3 a5 (1 : Int32) (0 : Int32) M hB ra0 h
      exact ⟨hS.tr z.1, z.2⟩
theorem oX16_files_L269 (fu : Nat) {out : Int32 × Mm} (k151 : Nat → Int32 → Int32 → Mm → Option (Int32 × Mm)) (k220 : Nat → Int32 → Int32 → Int32 → Int32 → Int32 → Mm → Option (Int32 × Mm)) (hk151 : ∀ (b0 : Nat) (b1 : Int32) (b2 : Int32)  (M : Mm), Bd RM TM M → RM b0 → k151 b0 b1 b2 M = some out → Sm RM M out.2 ∧ Bd RM TM out.2) (hk220 : ∀ (b0 : Nat) (b1 : Int32) (b2 : Int32) (b3 : Int32) (b4 : Int32) (b5 : Int32)  (M : Mm), Bd RM TM M → RM b0 → k220 b0 b1 b2 b3 b4 b5 M = some out → Sm RM M out.2 ∧ Bd RM TM out.2) (a0 : Nat) (a1 : Int32) (a2 : Int32) (a3 : Int32) (a4 : Int32) (a5 : Int32)  (M : Mm) (hB : Bd RM TM M) (ra0 : RM a0) (h : fX16_files_L269 fu k151 k220 a0 a1 a2 a3 a4 a5 M = some out) : Sm RM M out.2 ∧ Bd RM TM out.2 := by
  unfold fX16_files_L269 at h
  have hS : Sm RM M M := Sm.rf
  have z := hk220 a0 a1 a2 a3 a4 (a5 + (1 : Int32)) M hB ra0 h
  exact ⟨hS.tr z.1, z.2⟩
theorem oX16_files_L220 (fu : Nat) {out : Int32 × Mm} (k151 : Nat → Int32 → Int32 → Mm → Option (Int32 × Mm)) (hk151 : ∀ (b0 : Nat) (b1 : Int32) (b2 : Int32)  (M : Mm), Bd RM TM M → RM b0 → k151 b0 b1 b2 M = some out → Sm RM M out.2 ∧ Bd RM TM out.2) : ∀ (n : Nat) (a0 : Nat) (a1 : Int32) (a2 : Int32) (a3 : Int32) (a4 : Int32) (a5 : Int32)  (M : Mm), Bd RM TM M → RM a0 → fX16_files_L220 fu k151 n a0 a1 a2 a3 a4 a5 M = some out → Sm RM M out.2 ∧ Bd RM TM out.2 := by
  intro n
  induction n with
  | zero =>
    intro a0 a1 a2 a3 a4 a5 M hB ra0 h
    have h : (none : Option (Int32 × Mm)) = some out := h
    cases h
  | succ n ih =>
    intro a0 a1 a2 a3 a4 a5 M hB ra0 h
    rw [fX16_files_L220] at h
    have hS : Sm RM M M := Sm.rf
    by_cases hc : (48 : Int32) ≤ a5
    · have h := (if_pos hc).symm.trans h
      obtain ⟨q1, eq1, h⟩ := bd h
      have rq1 := rc_in hB (show 12 ≤ 16 ∧ 16 ≤ 16 from by decide) eq1
      obtain ⟨v3, M2, eM2, h⟩ := b2d h
      have w := oX16_imageWord fu q1 (a3 + (48 : Int32)) M hB rq1 eM2
      have hS := hS.tr w.1
      have hB := w.2
      obtain ⟨q4, eq4, h⟩ := bd h
      have rq4 := rc_in hB (show 12 ≤ 16 ∧ 16 ≤ 16 from by decide) eq4
      obtain ⟨v6, M5, eM5, h⟩ := b2d h
      have w := oX16_imageWord fu q4 (a3 + (52 : Int32)) M2 hB rq4 eM5
      have hS := hS.tr w.1
      have hB := w.2
      obtain ⟨v7, ev7, h⟩ := bd h
      by_cases hc : 0 < (lg_cmp (v3 + v6) (Int32.toInt64 v7))
      · have h := (if_pos hc).symm.trans h
        obtain rfl := Option.some.inj h
        exact ⟨hS, hB⟩
      · have h := (if_neg hc).symm.trans h
        obtain ⟨q8, eq8, h⟩ := bd h
        have rq8 := rc_in hB (show 12 ≤ 16 ∧ 16 ≤ 16 from by decide) eq8
        obtain ⟨v10, M9, eM9, h⟩ := b2d h
        have w := oX16_imageWord fu q8 (a3 + (60 : Int32)) M5 hB rq8 eM9
        have hS := hS.tr w.1
        have hB := w.2
        by_cases hc : (lg_cmp v10 (0 : Int64)) = 0
        · have h := (if_pos hc).symm.trans h
          have z := oX16_files_L319 fu k151 hk151 fu a0 a1 a2 a3 (0 : Int32) M9 hB ra0 h
          exact ⟨hS.tr z.1, z.2⟩
        · have h := (if_neg hc).symm.trans h
          obtain rfl := Option.some.inj h
          exact ⟨hS, hB⟩
    · have h := (if_neg hc).symm.trans h
      obtain ⟨v11, ev11, h⟩ := bd h
      have iv11 := gR_in hB (show 12 ≤ 16 ∧ 16 ≤ 16 from by decide) ev11
      obtain ⟨v12, ev12, h⟩ := bd h
      by_cases hc : a4 ≤ a5
      · have h := (if_pos hc).symm.trans h
        by_cases hc : v12 = 0
        · have h := (if_pos hc).symm.trans h
          have z := oX16_files_L269 fu k151 (fun b0 b1 b2 b3 b4 b5 M => fX16_files_L220 fu k151 n b0 b1 b2 b3 b4 b5 M) hk151 ih a0 a1 a2 a3 a4 a5 M hB ra0 h
          exact ⟨hS.tr z.1, z.2⟩
        · have h := (if_neg hc).symm.trans h
          obtain rfl := Option.some.inj h
          exact ⟨hS, hB⟩
      · have h := (if_neg hc).symm.trans h
        by_cases hc : v12 < (33 : Int32)
        · have h := (if_pos hc).symm.trans h
          obtain rfl := Option.some.inj h
          exact ⟨hS, hB⟩
        · have h := (if_neg hc).symm.trans h
          by_cases hc : v12 ≤ (126 : Int32)
          · have h := (if_pos hc).symm.trans h
            have z := oX16_files_L269 fu k151 (fun b0 b1 b2 b3 b4 b5 M => fX16_files_L220 fu k151 n b0 b1 b2 b3 b4 b5 M) hk151 ih a0 a1 a2 a3 a4 a5 M hB ra0 h
            exact ⟨hS.tr z.1, z.2⟩
          · have h := (if_neg hc).symm.trans h
            obtain rfl := Option.some.inj h
            exact ⟨hS, hB⟩
theorem oX16_files_L192 (fu : Nat) {out : Int32 × Mm} (k151 : Nat → Int32 → Int32 → Mm → Option (Int32 × Mm)) (hk151 : ∀ (b0 : Nat) (b1 : Int32) (b2 : Int32)  (M : Mm), Bd RM TM M → RM b0 → k151 b0 b1 b2 M = some out → Sm RM M out.2 ∧ Bd RM TM out.2) (a0 : Nat) (a1 : Int32) (a2 : Int32) (a3 : Int32) (a4 : Int32)  (M : Mm) (hB : Bd RM TM M) (ra0 : RM a0) (h : fX16_files_L192 fu k151 a0 a1 a2 a3 a4 M = some out) : Sm RM M out.2 ∧ Bd RM TM out.2 := by
  unfold fX16_files_L192 at h
  have hS : Sm RM M M := Sm.rf
  by_cases hc : a4 = 0
  · have h := (if_pos hc).symm.trans h
    obtain rfl := Option.some.inj h
    exact ⟨hS, hB⟩
  · have h := (if_neg hc).symm.trans h
    by_cases hc : a4 = (48 : Int32)
    · have h := (if_pos hc).symm.trans h
      obtain rfl := Option.some.inj h
      exact ⟨hS, hB⟩
    · have h := (if_neg hc).symm.trans h
      obtain ⟨v1, ev1, h⟩ := bd h
      have iv1 := gR_in hB (show 12 ≤ 16 ∧ 16 ≤ 16 from by decide) ev1
      obtain ⟨v2, ev2, h⟩ := bd h
      by_cases hc : v2 = (47 : Int32)
      · have h := (if_pos hc).symm.trans h
        have z := oX16_files_L220 fu k151 hk151 fu a0 a1 a2 a3 a4 (0 : Int32) M hB ra0 h
        exact ⟨hS.tr z.1, z.2⟩
      · have h := (if_neg hc).symm.trans h
        obtain rfl := Option.some.inj h
        exact ⟨hS, hB⟩
theorem oX16_files_L167 (fu : Nat) {out : Int32 × Mm} (k151 : Nat → Int32 → Int32 → Mm → Option (Int32 × Mm)) (hk151 : ∀ (b0 : Nat) (b1 : Int32) (b2 : Int32)  (M : Mm), Bd RM TM M → RM b0 → k151 b0 b1 b2 M = some out → Sm RM M out.2 ∧ Bd RM TM out.2) : ∀ (n : Nat) (a0 : Nat) (a1 : Int32) (a2 : Int32) (a3 : Int32) (a4 : Int32)  (M : Mm), Bd RM TM M → RM a0 → fX16_files_L167 fu k151 n a0 a1 a2 a3 a4 M = some out → Sm RM M out.2 ∧ Bd RM TM out.2 := by
  intro n
  induction n with
  | zero =>
    intro a0 a1 a2 a3 a4 M hB ra0 h
    have h : (none : Option (Int32 × Mm)) = some out := h
    cases h
  | succ n ih =>
    intro a0 a1 a2 a3 a4 M hB ra0 h
    rw [fX16_files_L167] at h
    have hS : Sm RM M M := Sm.rf
    by_cases hc : (48 : Int32) ≤ a4
    · have h := (if_pos hc).symm.trans h
      have z := oX16_files_L192 fu k151 hk151 a0 a1 a2 a3 a4 M hB ra0 h
      exact ⟨hS.tr z.1, z.2⟩
    · have h := (if_neg hc).symm.trans h
      obtain ⟨v1, ev1, h⟩ := bd h
      have iv1 := gR_in hB (show 12 ≤ 16 ∧ 16 ≤ 16 from by decide) ev1
      obtain ⟨v2, ev2, h⟩ := bd h
      by_cases hc : v2 = 0
      · have h := (if_pos hc).symm.trans h
        have z := oX16_files_L192 fu k151 hk151 a0 a1 a2 a3 a4 M hB ra0 h
        exact ⟨hS.tr z.1, z.2⟩
      · have h := (if_neg hc).symm.trans h
        have z := ih a0 a1 a2 a3 (a4 + (1 : Int32)) M hB ra0 h
        exact ⟨hS.tr z.1, z.2⟩
theorem oX16_files_L151 (fu : Nat) {out : Int32 × Mm}   : ∀ (n : Nat) (a0 : Nat) (a1 : Int32) (a2 : Int32)  (M : Mm), Bd RM TM M → RM a0 → fX16_files_L151 fu  n a0 a1 a2 M = some out → Sm RM M out.2 ∧ Bd RM TM out.2 := by
  intro n
  induction n with
  | zero =>
    intro a0 a1 a2 M hB ra0 h
    have h : (none : Option (Int32 × Mm)) = some out := h
    cases h
  | succ n ih =>
    intro a0 a1 a2 M hB ra0 h
    rw [fX16_files_L151] at h
    have hS : Sm RM M M := Sm.rf
    by_cases hc : a1 ≤ a2
    · have h := (if_pos hc).symm.trans h
      obtain rfl := Option.some.inj h
      exact ⟨hS, hB⟩
    · have h := (if_neg hc).symm.trans h
      have z := oX16_files_L167 fu (fun b0 b1 b2 M => fX16_files_L151 fu  n b0 b1 b2 M) ih fu a0 a1 a2 ((8 : Int32) + ((64 : Int32) * a2)) (0 : Int32) M hB ra0 h
      exact ⟨hS.tr z.1, z.2⟩
theorem oX16_files (fu : Nat)   (a0 : Nat)  (M : Mm) {out : Int32 × Mm} (hB : Bd RM TM M) (ra0 : RM a0) (h : fX16_files fu  a0 M = some out) : Sm RM M out.2 ∧ Bd RM TM out.2 := by
  unfold fX16_files at h
  have hS : Sm RM M M := Sm.rf
  obtain ⟨v1, ev1, h⟩ := bd h
  by_cases hc : v1 < (12 : Int32)
  · have h := (if_pos hc).symm.trans h
    obtain rfl := Option.some.inj h
    exact ⟨hS, hB⟩
  · have h := (if_neg hc).symm.trans h
    obtain ⟨v2, ev2, h⟩ := bd h
    have iv2 := gR_in hB (show 12 ≤ 16 ∧ 16 ≤ 16 from by decide) ev2
    obtain ⟨v3, ev3, h⟩ := bd h
    by_cases hc : v3 = (83 : Int32)
    · have h := (if_pos hc).symm.trans h
      obtain ⟨v4, ev4, h⟩ := bd h
      have iv4 := gR_in hB (show 12 ≤ 16 ∧ 16 ≤ 16 from by decide) ev4
      obtain ⟨v5, ev5, h⟩ := bd h
      by_cases hc : v5 = (84 : Int32)
      · have h := (if_pos hc).symm.trans h
        obtain ⟨v6, ev6, h⟩ := bd h
        have iv6 := gR_in hB (show 12 ≤ 16 ∧ 16 ≤ 16 from by decide) ev6
        obtain ⟨v7, ev7, h⟩ := bd h
        by_cases hc : v7 = (79 : Int32)
        · have h := (if_pos hc).symm.trans h
          obtain ⟨v8, ev8, h⟩ := bd h
          have iv8 := gR_in hB (show 12 ≤ 16 ∧ 16 ≤ 16 from by decide) ev8
          obtain ⟨v9, ev9, h⟩ := bd h
          by_cases hc : v9 = (82 : Int32)
          · have h := (if_pos hc).symm.trans h
            obtain ⟨v10, ev10, h⟩ := bd h
            have iv10 := gR_in hB (show 12 ≤ 16 ∧ 16 ≤ 16 from by decide) ev10
            obtain ⟨v11, ev11, h⟩ := bd h
            by_cases hc : v11 = 0
            · have h := (if_pos hc).symm.trans h
              obtain ⟨v12, ev12, h⟩ := bd h
              have iv12 := gR_in hB (show 12 ≤ 16 ∧ 16 ≤ 16 from by decide) ev12
              obtain ⟨v13, ev13, h⟩ := bd h
              by_cases hc : v13 = 0
              · have h := (if_pos hc).symm.trans h
                obtain ⟨v14, ev14, h⟩ := bd h
                have iv14 := gR_in hB (show 12 ≤ 16 ∧ 16 ≤ 16 from by decide) ev14
                obtain ⟨v15, ev15, h⟩ := bd h
                obtain ⟨v16, ev16, h⟩ := bd h
                have iv16 := gR_in hB (show 12 ≤ 16 ∧ 16 ≤ 16 from by decide) ev16
                obtain ⟨v17, ev17, h⟩ := bd h
                obtain ⟨v18, ev18, h⟩ := bd h
                by_cases hc : (64 : Int32) < v18
                · have h := (if_pos hc).symm.trans h
                  obtain rfl := Option.some.inj h
                  exact ⟨hS, hB⟩
                · have h := (if_neg hc).symm.trans h
                  obtain ⟨v19, ev19, h⟩ := bd h
                  by_cases hc : v19 < ((12 : Int32) + ((64 : Int32) * v18))
                  · have h := (if_pos hc).symm.trans h
                    obtain rfl := Option.some.inj h
                    exact ⟨hS, hB⟩
                  · have h := (if_neg hc).symm.trans h
                    obtain ⟨q20, eq20, h⟩ := bd h
                    have rq20 := rc_in hB (show 12 ≤ 16 ∧ 16 ≤ 16 from by decide) eq20
                    obtain ⟨v22, M21, eM21, h⟩ := b2d h
                    have w := oX16_check fu q20 (0 : Int32) ((8 : Int32) + ((64 : Int32) * v18)) M hB rq20 eM21
                    have hS := hS.tr w.1
                    have hB := w.2
                    obtain ⟨q23, eq23, h⟩ := bd h
                    have rq23 := rc_in hB (show 12 ≤ 16 ∧ 16 ≤ 16 from by decide) eq23
                    obtain ⟨v25, M24, eM24, h⟩ := b2d h
                    have w := oX16_imageWord fu q23 ((8 : Int32) + ((64 : Int32) * v18)) M21 hB rq23 eM24
                    have hS := hS.tr w.1
                    have hB := w.2
                    by_cases hc : v22 = (Int64.toInt32 v25)
                    · have h := (if_pos hc).symm.trans h
                      have z := oX16_files_L151 fu   fu a0 v18 (0 : Int32) M24 hB ra0 h
                      exact ⟨hS.tr z.1, z.2⟩
                    · have h := (if_neg hc).symm.trans h
                      obtain rfl := Option.some.inj h
                      exact ⟨hS, hB⟩
              · have h := (if_neg hc).symm.trans h
                obtain rfl := Option.some.inj h
                exact ⟨hS, hB⟩
            · have h := (if_neg hc).symm.trans h
              obtain rfl := Option.some.inj h
              exact ⟨hS, hB⟩
          · have h := (if_neg hc).symm.trans h
            obtain rfl := Option.some.inj h
            exact ⟨hS, hB⟩
        · have h := (if_neg hc).symm.trans h
          obtain rfl := Option.some.inj h
          exact ⟨hS, hB⟩
      · have h := (if_neg hc).symm.trans h
        obtain rfl := Option.some.inj h
        exact ⟨hS, hB⟩
    · have h := (if_neg hc).symm.trans h
      obtain rfl := Option.some.inj h
      exact ⟨hS, hB⟩
theorem oX16_net (fu : Nat)   (a0 : Nat) (a1 : Int32)  (M : Mm) {out : Int32 × Mm} (hB : Bd RM TM M) (ra0 : RM a0) (h : fX16_net fu  a0 a1 M = some out) : Sm RM M out.2 ∧ Bd RM TM out.2 := by
  unfold fX16_net at h
  have hS : Sm RM M M := Sm.rf
  obtain ⟨v1, ev1, h⟩ := bd h
  obtain ⟨v2, ev2, h⟩ := bd h
  obtain rfl := Option.some.inj h
  exact ⟨hS, hB⟩
theorem oX16_isHost (fu : Nat)   (a0 : Int32)  (M : Mm) {out : Int32 × Mm} (hB : Bd RM TM M)  (h : fX16_isHost fu  a0 M = some out) : Sm RM M out.2 ∧ Bd RM TM out.2 := by
  unfold fX16_isHost at h
  have hS : Sm RM M M := Sm.rf
  by_cases hc : (ushr a0 (24 : Int32)) < (1 : Int32)
  · have h := (if_pos hc).symm.trans h
    obtain ⟨hz, rfl⟩ := rN_some h
    exact ⟨hS, hB⟩
  · have h := (if_neg hc).symm.trans h
    by_cases hc : (223 : Int32) < (ushr a0 (24 : Int32))
    · have h := (if_pos hc).symm.trans h
      obtain ⟨hz, rfl⟩ := rN_some h
      exact ⟨hS, hB⟩
    · have h := (if_neg hc).symm.trans h
      by_cases hc : (ushr a0 (24 : Int32)) = (127 : Int32)
      · have h := (if_pos hc).symm.trans h
        obtain ⟨hz, rfl⟩ := rN_some h
        exact ⟨hS, hB⟩
      · have h := (if_neg hc).symm.trans h
        obtain ⟨hz, rfl⟩ := rN_some h
        exact ⟨hS, hB⟩
theorem oX16_boot_L380 (fu : Nat) {out : Int32 × Mm}   : ∀ (n : Nat) (a0 : Nat) (a7 : Int32) (a8 : Int32)  (M : Mm), Bd RM TM M → RM a0 → fX16_boot_L380 fu  n a0 a7 a8 M = some out → Sm RM M out.2 ∧ Bd RM TM out.2 := by
  intro n
  induction n with
  | zero =>
    intro a0 a7 a8 M hB ra0 h
    have h : (none : Option (Int32 × Mm)) = some out := h
    cases h
  | succ n ih =>
    intro a0 a7 a8 M hB ra0 h
    rw [fX16_boot_L380] at h
    have hS : Sm RM M M := Sm.rf
    by_cases hc : (4 : Int32) ≤ a8
    · have h := (if_pos hc).symm.trans h
      obtain rfl := Option.some.inj h
      exact ⟨hS, hB⟩
    · have h := (if_neg hc).symm.trans h
      obtain ⟨v1, ev1, h⟩ := bd h
      have iv1 := gR_in hB (show 12 ≤ 16 ∧ 16 ≤ 16 from by decide) ev1
      obtain ⟨v2, ev2, h⟩ := bd h
      have iv2 := gB_in hB iv1 ev2
      obtain ⟨M3, eM3, h⟩ := bd h
      have w := pZ_own hB (show 12 ≤ 13 ∧ 13 ≤ 16 from by decide) eM3
      have hS := hS.tr w.1
      have hB := w.2
      have z := ih a0 a7 (a8 + (1 : Int32)) M3 hB ra0 h
      exact ⟨hS.tr z.1, z.2⟩
theorem oX16_boot_L353 (fu : Nat) {out : Int32 × Mm}   : ∀ (n : Nat) (a0 : Nat) (a7 : Int32) (a8 : Int32)  (M : Mm), Bd RM TM M → RM a0 → fX16_boot_L353 fu  n a0 a7 a8 M = some out → Sm RM M out.2 ∧ Bd RM TM out.2 := by
  intro n
  induction n with
  | zero =>
    intro a0 a7 a8 M hB ra0 h
    have h : (none : Option (Int32 × Mm)) = some out := h
    cases h
  | succ n ih =>
    intro a0 a7 a8 M hB ra0 h
    rw [fX16_boot_L353] at h
    have hS : Sm RM M M := Sm.rf
    by_cases hc : (8 : Int32) ≤ a8
    · have h := (if_pos hc).symm.trans h
      have z := oX16_boot_L380 fu   fu a0 a7 (0 : Int32) M hB ra0 h
      exact ⟨hS.tr z.1, z.2⟩
    · have h := (if_neg hc).symm.trans h
      obtain ⟨v1, ev1, h⟩ := bd h
      have iv1 := gR_in hB (show 12 ≤ 16 ∧ 16 ≤ 16 from by decide) ev1
      obtain ⟨v2, ev2, h⟩ := bd h
      have iv2 := gB_in hB iv1 ev2
      obtain ⟨M3, eM3, h⟩ := bd h
      have w := pZ_own hB (show 12 ≤ 15 ∧ 15 ≤ 16 from by decide) eM3
      have hS := hS.tr w.1
      have hB := w.2
      have z := ih a0 a7 (a8 + (1 : Int32)) M3 hB ra0 h
      exact ⟨hS.tr z.1, z.2⟩
theorem oX16_boot_L326 (fu : Nat) {out : Int32 × Mm}   : ∀ (n : Nat) (a0 : Nat) (a7 : Int32) (a8 : Int32)  (M : Mm), Bd RM TM M → RM a0 → fX16_boot_L326 fu  n a0 a7 a8 M = some out → Sm RM M out.2 ∧ Bd RM TM out.2 := by
  intro n
  induction n with
  | zero =>
    intro a0 a7 a8 M hB ra0 h
    have h : (none : Option (Int32 × Mm)) = some out := h
    cases h
  | succ n ih =>
    intro a0 a7 a8 M hB ra0 h
    rw [fX16_boot_L326] at h
    have hS : Sm RM M M := Sm.rf
    by_cases hc : (16 : Int32) ≤ a8
    · have h := (if_pos hc).symm.trans h
      have z := oX16_boot_L353 fu   fu a0 a7 (0 : Int32) M hB ra0 h
      exact ⟨hS.tr z.1, z.2⟩
    · have h := (if_neg hc).symm.trans h
      obtain ⟨v1, ev1, h⟩ := bd h
      have iv1 := gR_in hB (show 12 ≤ 16 ∧ 16 ≤ 16 from by decide) ev1
      obtain ⟨v2, ev2, h⟩ := bd h
      have iv2 := gB_in hB iv1 ev2
      obtain ⟨M3, eM3, h⟩ := bd h
      have w := pZ_own hB (show 12 ≤ 14 ∧ 14 ≤ 16 from by decide) eM3
      have hS := hS.tr w.1
      have hB := w.2
      have z := ih a0 a7 (a8 + (1 : Int32)) M3 hB ra0 h
      exact ⟨hS.tr z.1, z.2⟩
theorem oX16_boot_L299 (fu : Nat) {out : Int32 × Mm}   : ∀ (n : Nat) (a0 : Nat) (a7 : Int32) (a8 : Int32)  (M : Mm), Bd RM TM M → RM a0 → fX16_boot_L299 fu  n a0 a7 a8 M = some out → Sm RM M out.2 ∧ Bd RM TM out.2 := by
  intro n
  induction n with
  | zero =>
    intro a0 a7 a8 M hB ra0 h
    have h : (none : Option (Int32 × Mm)) = some out := h
    cases h
  | succ n ih =>
    intro a0 a7 a8 M hB ra0 h
    rw [fX16_boot_L299] at h
    have hS : Sm RM M M := Sm.rf
    by_cases hc : (16 : Int32) ≤ a8
    · have h := (if_pos hc).symm.trans h
      have z := oX16_boot_L326 fu   fu a0 a7 (0 : Int32) M hB ra0 h
      exact ⟨hS.tr z.1, z.2⟩
    · have h := (if_neg hc).symm.trans h
      obtain ⟨v1, ev1, h⟩ := bd h
      have iv1 := gR_in hB (show 12 ≤ 16 ∧ 16 ≤ 16 from by decide) ev1
      obtain ⟨v2, ev2, h⟩ := bd h
      have iv2 := gB_in hB iv1 ev2
      obtain ⟨M3, eM3, h⟩ := bd h
      have w := pF_own hB (show 12 ≤ 12 ∧ 12 ≤ 16 from by decide) eM3
      have hS := hS.tr w.1
      have hB := w.2
      have z := ih a0 a7 (a8 + (1 : Int32)) M3 hB ra0 h
      exact ⟨hS.tr z.1, z.2⟩
theorem oX16_boot_L275 (fu : Nat) {out : Int32 × Mm}   : ∀ (n : Nat) (a0 : Nat) (a7 : Int32) (a8 : Int32)  (M : Mm), Bd RM TM M → RM a0 → fX16_boot_L275 fu  n a0 a7 a8 M = some out → Sm RM M out.2 ∧ Bd RM TM out.2 := by
  intro n
  induction n with
  | zero =>
    intro a0 a7 a8 M hB ra0 h
    have h : (none : Option (Int32 × Mm)) = some out := h
    cases h
  | succ n ih =>
    intro a0 a7 a8 M hB ra0 h
    rw [fX16_boot_L275] at h
    have hS : Sm RM M M := Sm.rf
    by_cases hc : (8 : Int32) ≤ a8
    · have h := (if_pos hc).symm.trans h
      have z := oX16_boot_L299 fu   fu a0 a7 (0 : Int32) M hB ra0 h
      exact ⟨hS.tr z.1, z.2⟩
    · have h := (if_neg hc).symm.trans h
      obtain ⟨v1, ev1, h⟩ := bd h
      have iv1 := gR_in hB (show 12 ≤ 16 ∧ 16 ≤ 16 from by decide) ev1
      obtain ⟨M2, eM2, h⟩ := bd h
      have w := pA_own hB iv1 (by decide) eM2
      have hS := hS.tr w.1
      have hB := w.2
      have z := ih a0 a7 (a8 + (1 : Int32)) M2 hB ra0 h
      exact ⟨hS.tr z.1, z.2⟩
theorem oX16_boot_L120 (fu : Nat) {out : Int32 × Mm} (k110 : Nat → Int32 → Int32 → Mm → Option (Int32 × Mm)) (hk110 : ∀ (b0 : Nat) (b7 : Int32) (b8 : Int32)  (M : Mm), Bd RM TM M → RM b0 → k110 b0 b7 b8 M = some out → Sm RM M out.2 ∧ Bd RM TM out.2) : ∀ (n : Nat) (a0 : Nat) (a7 : Int32) (a8 : Int32) (a9 : Int32)  (M : Mm), Bd RM TM M → RM a0 → fX16_boot_L120 fu k110 n a0 a7 a8 a9 M = some out → Sm RM M out.2 ∧ Bd RM TM out.2 := by
  intro n
  induction n with
  | zero =>
    intro a0 a7 a8 a9 M hB ra0 h
    have h : (none : Option (Int32 × Mm)) = some out := h
    cases h
  | succ n ih =>
    intro a0 a7 a8 a9 M hB ra0 h
    rw [fX16_boot_L120] at h
    have hS : Sm RM M M := Sm.rf
    by_cases hc : (48 : Int32) ≤ a9
    · have h := (if_pos hc).symm.trans h
      obtain ⟨v1, ev1, h⟩ := bd h
      have iv1 := gR_in hB (show 12 ≤ 16 ∧ 16 ≤ 16 from by decide) ev1
      obtain ⟨q2, eq2, h⟩ := bd h
      have rq2 := rc_in hB (show 12 ≤ 16 ∧ 16 ≤ 16 from by decide) eq2
      obtain ⟨v4, M3, eM3, h⟩ := b2d h
      have w := oX16_imageWord fu q2 (((8 : Int32) + ((64 : Int32) * a8)) + (48 : Int32)) M hB rq2 eM3
      have hS := hS.tr w.1
      have hB := w.2
      obtain ⟨M5, eM5, h⟩ := bd h
      have w := pA_own hB iv1 (by decide) eM5
      have hS := hS.tr w.1
      have hB := w.2
      obtain ⟨v6, ev6, h⟩ := bd h
      have iv6 := gR_in hB (show 12 ≤ 16 ∧ 16 ≤ 16 from by decide) ev6
      obtain ⟨q7, eq7, h⟩ := bd h
      have rq7 := rc_in hB (show 12 ≤ 16 ∧ 16 ≤ 16 from by decide) eq7
      obtain ⟨v9, M8, eM8, h⟩ := b2d h
      have w := oX16_imageWord fu q7 (((8 : Int32) + ((64 : Int32) * a8)) + (52 : Int32)) M5 hB rq7 eM8
      have hS := hS.tr w.1
      have hB := w.2
      obtain ⟨M10, eM10, h⟩ := bd h
      have w := pA_own hB iv6 (by decide) eM10
      have hS := hS.tr w.1
      have hB := w.2
      obtain ⟨v11, ev11, h⟩ := bd h
      have iv11 := gR_in hB (show 12 ≤ 16 ∧ 16 ≤ 16 from by decide) ev11
      obtain ⟨q12, eq12, h⟩ := bd h
      have rq12 := rc_in hB (show 12 ≤ 16 ∧ 16 ≤ 16 from by decide) eq12
      obtain ⟨v14, M13, eM13, h⟩ := b2d h
      have w := oX16_imageWord fu q12 (((8 : Int32) + ((64 : Int32) * a8)) + (56 : Int32)) M10 hB rq12 eM13
      have hS := hS.tr w.1
      have hB := w.2
      obtain ⟨M15, eM15, h⟩ := bd h
      have w := pA_own hB iv11 (by decide) eM15
      have hS := hS.tr w.1
      have hB := w.2
      have z := hk110 a0 a7 (a8 + (1 : Int32)) M15 hB ra0 h
      exact ⟨hS.tr z.1, z.2⟩
    · have h := (if_neg hc).symm.trans h
      obtain ⟨v16, ev16, h⟩ := bd h
      have iv16 := gR_in hB (show 12 ≤ 16 ∧ 16 ≤ 16 from by decide) ev16
      obtain ⟨v17, ev17, h⟩ := bd h
      have iv17 := gR_in hB (show 12 ≤ 16 ∧ 16 ≤ 16 from by decide) ev17
      obtain ⟨v18, ev18, h⟩ := bd h
      obtain ⟨M19, eM19, h⟩ := bd h
      have w := pA_ownB hB iv16 eM19
      have hS := hS.tr w.1
      have hB := w.2
      have z := ih a0 a7 a8 (a9 + (1 : Int32)) M19 hB ra0 h
      exact ⟨hS.tr z.1, z.2⟩
theorem oX16_boot_L110 (fu : Nat) {out : Int32 × Mm}   : ∀ (n : Nat) (a0 : Nat) (a7 : Int32) (a8 : Int32)  (M : Mm), Bd RM TM M → RM a0 → fX16_boot_L110 fu  n a0 a7 a8 M = some out → Sm RM M out.2 ∧ Bd RM TM out.2 := by
  intro n
  induction n with
  | zero =>
    intro a0 a7 a8 M hB ra0 h
    have h : (none : Option (Int32 × Mm)) = some out := h
    cases h
  | succ n ih =>
    intro a0 a7 a8 M hB ra0 h
    rw [fX16_boot_L110] at h
    have hS : Sm RM M M := Sm.rf
    by_cases hc : a7 ≤ a8
    · have h := (if_pos hc).symm.trans h
      obtain ⟨M1, eM1, h⟩ := bd h
      have w := pZ_own hB (show 12 ≤ 16 ∧ 16 ≤ 16 from by decide) eM1
      have hS := hS.tr w.1
      have hB := w.2
      obtain ⟨M2, eM2, h⟩ := bd h
      have w := pF_own hB (show 12 ≤ 16 ∧ 16 ≤ 16 from by decide) eM2
      have hS := hS.tr w.1
      have hB := w.2
      obtain ⟨M3, eM3, h⟩ := bd h
      have w := pF_own hB (show 12 ≤ 16 ∧ 16 ≤ 16 from by decide) eM3
      have hS := hS.tr w.1
      have hB := w.2
      obtain ⟨M4, eM4, h⟩ := bd h
      have w := pF_own hB (show 12 ≤ 16 ∧ 16 ≤ 16 from by decide) eM4
      have hS := hS.tr w.1
      have hB := w.2
      obtain ⟨M5, eM5, h⟩ := bd h
      have w := pF_own hB (show 12 ≤ 16 ∧ 16 ≤ 16 from by decide) eM5
      have hS := hS.tr w.1
      have hB := w.2
      obtain ⟨M6, eM6, h⟩ := bd h
      have w := pF_own hB (show 12 ≤ 16 ∧ 16 ≤ 16 from by decide) eM6
      have hS := hS.tr w.1
      have hB := w.2
      obtain ⟨M7, eM7, h⟩ := bd h
      have w := pF_own hB (show 12 ≤ 16 ∧ 16 ≤ 16 from by decide) eM7
      have hS := hS.tr w.1
      have hB := w.2
      have z := oX16_boot_L275 fu   fu a0 a7 (0 : Int32) M7 hB ra0 h
      exact ⟨hS.tr z.1, z.2⟩
    · have h := (if_neg hc).symm.trans h
      have z := oX16_boot_L120 fu (fun b0 b7 b8 M => fX16_boot_L110 fu  n b0 b7 b8 M) ih fu a0 a7 a8 (0 : Int32) M hB ra0 h
      exact ⟨hS.tr z.1, z.2⟩
theorem oX16_boot (fu : Nat)   (a0 : Nat) (a1 : Int32) (a2 : Int32) (a3 : Int32) (a4 : Int32) (a5 : Int32)  (M : Mm) {out : Int32 × Mm} (hB : Bd RM TM M) (ra0 : RM a0) (h : fX16_boot fu  a0 a1 a2 a3 a4 a5 M = some out) : Sm RM M out.2 ∧ Bd RM TM out.2 := by
  unfold fX16_boot at h
  have hS : Sm RM M M := Sm.rf
  by_cases hc : a2 < (8 : Int32)
  · have h := (if_pos hc).symm.trans h
    obtain rfl := Option.some.inj h
    exact ⟨hS, hB⟩
  · have h := (if_neg hc).symm.trans h
    by_cases hc : (30 : Int32) < a2
    · have h := (if_pos hc).symm.trans h
      obtain rfl := Option.some.inj h
      exact ⟨hS, hB⟩
    · have h := (if_neg hc).symm.trans h
      obtain ⟨v2, M1, eM1, h⟩ := b2d h
      have w := oX16_isHost fu  a1 M hB  eM1
      have hS := hS.tr w.1
      have hB := w.2
      by_cases hc : v2 = 0
      · have h := (if_pos hc).symm.trans h
        obtain rfl := Option.some.inj h
        exact ⟨hS, hB⟩
      · have h := (if_neg hc).symm.trans h
        by_cases hc : (a3 >>> (((32 : Int32) - a2) &&& 31)) = (a1 >>> (((32 : Int32) - a2) &&& 31))
        · have h := (if_pos hc).symm.trans h
          by_cases hc : a3 = a1
          · have h := (if_pos hc).symm.trans h
            obtain rfl := Option.some.inj h
            exact ⟨hS, hB⟩
          · have h := (if_neg hc).symm.trans h
            by_cases hc : ((a4 >>> ((8 : Int32) &&& 31)) &&& (1 : Int32)) = (1 : Int32)
            · have h := (if_pos hc).symm.trans h
              obtain rfl := Option.some.inj h
              exact ⟨hS, hB⟩
            · have h := (if_neg hc).symm.trans h
              obtain ⟨q3, eq3, h⟩ := bd h
              have rq3 := rc_in hB (show 12 ≤ 16 ∧ 16 ≤ 16 from by decide) eq3
              obtain ⟨v5, M4, eM4, h⟩ := b2d h
              have w := oX16_files fu q3  M1 hB rq3 eM4
              have hS := hS.tr w.1
              have hB := w.2
              by_cases hc : 0 ≤ v5
              · have h := (if_pos hc).symm.trans h
                obtain ⟨M6, eM6, h⟩ := bd h
                have w := pF_own hB (show 12 ≤ 16 ∧ 16 ≤ 16 from by decide) eM6
                have hS := hS.tr w.1
                have hB := w.2
                obtain ⟨M7, eM7, h⟩ := bd h
                have w := pF_own hB (show 12 ≤ 16 ∧ 16 ≤ 16 from by decide) eM7
                have hS := hS.tr w.1
                have hB := w.2
                obtain ⟨M8, eM8, h⟩ := bd h
                have w := pF_own hB (show 12 ≤ 16 ∧ 16 ≤ 16 from by decide) eM8
                have hS := hS.tr w.1
                have hB := w.2
                obtain ⟨M9, eM9, h⟩ := bd h
                have w := pF_own hB (show 12 ≤ 16 ∧ 16 ≤ 16 from by decide) eM9
                have hS := hS.tr w.1
                have hB := w.2
                obtain ⟨M10, eM10, h⟩ := bd h
                have w := pF_own hB (show 12 ≤ 16 ∧ 16 ≤ 16 from by decide) eM10
                have hS := hS.tr w.1
                have hB := w.2
                obtain ⟨M11, eM11, h⟩ := bd h
                have w := pF_own hB (show 12 ≤ 16 ∧ 16 ≤ 16 from by decide) eM11
                have hS := hS.tr w.1
                have hB := w.2
                have z := oX16_boot_L110 fu   fu a0 v5 (0 : Int32) M11 hB ra0 h
                exact ⟨hS.tr z.1, z.2⟩
              · have h := (if_neg hc).symm.trans h
                obtain rfl := Option.some.inj h
                exact ⟨hS, hB⟩
        · have h := (if_neg hc).symm.trans h
          obtain rfl := Option.some.inj h
          exact ⟨hS, hB⟩
theorem oX16_put_L3 (fu : Nat) {out : Mm}   : ∀ (n : Nat) (a0 : Nat) (a1 : Int32) (a2 : Int32) (a3 : Int32) (a4 : Int32)  (M : Mm), Bd RM TM M → RM a0 → fX16_put_L3 fu  n a0 a1 a2 a3 a4 M = some out → Sm RM M out ∧ Bd RM TM out := by
  intro n
  induction n with
  | zero =>
    intro a0 a1 a2 a3 a4 M hB ra0 h
    have h : (none : Option (Mm)) = some out := h
    cases h
  | succ n ih =>
    intro a0 a1 a2 a3 a4 M hB ra0 h
    rw [fX16_put_L3] at h
    have hS : Sm RM M M := Sm.rf
    by_cases hc : a2 ≤ a4
    · have h := (if_pos hc).symm.trans h
      obtain rfl := Option.some.inj h
      exact ⟨hS, hB⟩
    · have h := (if_neg hc).symm.trans h
      obtain ⟨v1, ev1, h⟩ := bd h
      have iv1 := gR_in hB (show 12 ≤ 16 ∧ 16 ≤ 16 from by decide) ev1
      obtain ⟨M2, eM2, h⟩ := bd h
      have w := pA_ownB hB iv1 eM2
      have hS := hS.tr w.1
      have hB := w.2
      have z := ih a0 a1 a2 a3 (a4 + (1 : Int32)) M2 hB ra0 h
      exact ⟨hS.tr z.1, z.2⟩
theorem oX16_put (fu : Nat)   (a0 : Nat) (a1 : Int32) (a2 : Int32) (a3 : Int32)  (M : Mm) {out : Mm} (hB : Bd RM TM M) (ra0 : RM a0) (h : fX16_put fu  a0 a1 a2 a3 M = some out) : Sm RM M out ∧ Bd RM TM out := by
  unfold fX16_put at h
  have hS : Sm RM M M := Sm.rf
  have z := oX16_put_L3 fu   fu a0 a1 a2 a3 (0 : Int32) M hB ra0 h
  exact ⟨hS.tr z.1, z.2⟩
theorem oX16_send_L116 (fu : Nat) {out : Mm}   : ∀ (n : Nat) (a0 : Nat) (a5 : Int32) (a6 : Int32) (a7 : Int32)  (M : Mm), Bd RM TM M → RM a0 → fX16_send_L116 fu  n a0 a5 a6 a7 M = some out → Sm RM M out ∧ Bd RM TM out := by
  intro n
  induction n with
  | zero =>
    intro a0 a5 a6 a7 M hB ra0 h
    have h : (none : Option (Mm)) = some out := h
    cases h
  | succ n ih =>
    intro a0 a5 a6 a7 M hB ra0 h
    rw [fX16_send_L116] at h
    have hS : Sm RM M M := Sm.rf
    by_cases hc : a5 ≤ a7
    · have h := (if_pos hc).symm.trans h
      obtain ⟨v1, ev1, h⟩ := bd h
      have iv1 := gR_in hB (show 12 ≤ 16 ∧ 16 ≤ 16 from by decide) ev1
      obtain ⟨M2, eM2, h⟩ := bd h
      have w := pA_own hB iv1 (by decide) eM2
      have hS := hS.tr w.1
      have hB := w.2
      obtain ⟨v3, ev3, h⟩ := bd h
      have iv3 := gR_in hB (show 12 ≤ 16 ∧ 16 ≤ 16 from by decide) ev3
      obtain ⟨v4, ev4, h⟩ := bd h
      obtain ⟨M5, eM5, h⟩ := bd h
      have w := pA_own hB iv3 (by decide) eM5
      have hS := hS.tr w.1
      have hB := w.2
      obtain ⟨v6, ev6, h⟩ := bd h
      obtain ⟨M7, eM7, h⟩ := bd h
      have w := pF_own hB (show 12 ≤ 16 ∧ 16 ≤ 16 from by decide) eM7
      have hS := hS.tr w.1
      have hB := w.2
      obtain rfl := Option.some.inj h
      exact ⟨hS, hB⟩
    · have h := (if_neg hc).symm.trans h
      obtain ⟨v8, ev8, h⟩ := bd h
      have iv8 := gR_in hB (show 12 ≤ 16 ∧ 16 ≤ 16 from by decide) ev8
      obtain ⟨v9, ev9, h⟩ := bd h
      have iv9 := gR_in hB (show 12 ≤ 16 ∧ 16 ≤ 16 from by decide) ev9
      obtain ⟨v10, ev10, h⟩ := bd h
      obtain ⟨M11, eM11, h⟩ := bd h
      have w := pA_ownB hB iv8 eM11
      have hS := hS.tr w.1
      have hB := w.2
      have z := ih a0 a5 a6 (a7 + (1 : Int32)) M11 hB ra0 h
      exact ⟨hS.tr z.1, z.2⟩
theorem oX16_send_L55 (fu : Nat) {out : Mm}   : ∀ (n : Nat) (a0 : Nat) (a5 : Int32) (a6 : Int32)  (M : Mm), Bd RM TM M → RM a0 → fX16_send_L55 fu  n a0 a5 a6 M = some out → Sm RM M out ∧ Bd RM TM out := by
  intro n
  induction n with
  | zero =>
    intro a0 a5 a6 M hB ra0 h
    have h : (none : Option (Mm)) = some out := h
    cases h
  | succ n ih =>
    intro a0 a5 a6 M hB ra0 h
    rw [fX16_send_L55] at h
    have hS : Sm RM M M := Sm.rf
    by_cases hc : (60 : Int32) ≤ a6
    · have h := (if_pos hc).symm.trans h
      by_cases hc : (jmax a5 (60 : Int32)) ≤ (1514 : Int32)
      · have h := (if_pos hc).symm.trans h
        obtain ⟨v1, ev1, h⟩ := bd h
        have z := oX16_send_L116 fu   fu a0 (jmax a5 (60 : Int32)) (irm v1 (32 : Int32)) (0 : Int32) M hB ra0 h
        exact ⟨hS.tr z.1, z.2⟩
      · have h := (if_neg hc).symm.trans h
        obtain ⟨v2, ev2, h⟩ := bd h
        obtain ⟨M3, eM3, h⟩ := bd h
        have w := pF_own hB (show 12 ≤ 16 ∧ 16 ≤ 16 from by decide) eM3
        have hS := hS.tr w.1
        have hB := w.2
        obtain rfl := Option.some.inj h
        exact ⟨hS, hB⟩
    · have h := (if_neg hc).symm.trans h
      obtain ⟨v4, ev4, h⟩ := bd h
      have iv4 := gR_in hB (show 12 ≤ 16 ∧ 16 ≤ 16 from by decide) ev4
      obtain ⟨M5, eM5, h⟩ := bd h
      have w := pA_ownB hB iv4 eM5
      have hS := hS.tr w.1
      have hB := w.2
      have z := ih a0 a5 (a6 + (1 : Int32)) M5 hB ra0 h
      exact ⟨hS.tr z.1, z.2⟩
theorem oX16_send (fu : Nat)   (a0 : Nat) (a1 : Int32) (a2 : Int32) (a3 : Int32) (a4 : Int32)  (M : Mm) {out : Mm} (hB : Bd RM TM M) (ra0 : RM a0) (h : fX16_send fu  a0 a1 a2 a3 a4 M = some out) : Sm RM M out ∧ Bd RM TM out := by
  unfold fX16_send at h
  have hS : Sm RM M M := Sm.rf
  obtain ⟨q1, eq1, h⟩ := bd h
  have rq1 := rc_in hB (show 12 ≤ 16 ∧ 16 ≤ 16 from by decide) eq1
  obtain ⟨M2, eM2, h⟩ := bd h
  have w := oX16_put fu q1 (0 : Int32) (2 : Int32) a1 M hB rq1 eM2
  have hS := hS.tr w.1
  have hB := w.2
  obtain ⟨q3, eq3, h⟩ := bd h
  have rq3 := rc_in hB (show 12 ≤ 16 ∧ 16 ≤ 16 from by decide) eq3
  obtain ⟨M4, eM4, h⟩ := bd h
  have w := oX16_put fu q3 (2 : Int32) (4 : Int32) a2 M2 hB rq3 eM4
  have hS := hS.tr w.1
  have hB := w.2
  obtain ⟨v5, ev5, h⟩ := bd h
  obtain ⟨q6, eq6, h⟩ := bd h
  have rq6 := rc_in hB (show 12 ≤ 16 ∧ 16 ≤ 16 from by decide) eq6
  obtain ⟨M7, eM7, h⟩ := bd h
  have w := oX16_put fu q6 (6 : Int32) (2 : Int32) v5 M4 hB rq6 eM7
  have hS := hS.tr w.1
  have hB := w.2
  obtain ⟨v8, ev8, h⟩ := bd h
  obtain ⟨q9, eq9, h⟩ := bd h
  have rq9 := rc_in hB (show 12 ≤ 16 ∧ 16 ≤ 16 from by decide) eq9
  obtain ⟨M10, eM10, h⟩ := bd h
  have w := oX16_put fu q9 (8 : Int32) (4 : Int32) v8 M7 hB rq9 eM10
  have hS := hS.tr w.1
  have hB := w.2
  obtain ⟨q11, eq11, h⟩ := bd h
  have rq11 := rc_in hB (show 12 ≤ 16 ∧ 16 ≤ 16 from by decide) eq11
  obtain ⟨M12, eM12, h⟩ := bd h
  have w := oX16_put fu q11 (12 : Int32) (2 : Int32) a3 M10 hB rq11 eM12
  have hS := hS.tr w.1
  have hB := w.2
  have z := oX16_send_L55 fu   fu a0 ((14 : Int32) + a4) ((14 : Int32) + a4) M12 hB ra0 h
  exact ⟨hS.tr z.1, z.2⟩
theorem oX16_sixteen_L2 (fu : Nat) {out : Int32 × Mm}   : ∀ (n : Nat) (a2 : Int64)  (M : Mm), Bd RM TM M → fX16_sixteen_L2 fu  n a2 M = some out → Sm RM M out.2 ∧ Bd RM TM out.2 := by
  intro n
  induction n with
  | zero =>
    intro a2 M hB  h
    have h : (none : Option (Int32 × Mm)) = some out := h
    cases h
  | succ n ih =>
    intro a2 M hB  h
    rw [fX16_sixteen_L2] at h
    have hS : Sm RM M M := Sm.rf
    by_cases hc : (lg_cmp a2 (65535 : Int64)) ≤ 0
    · have h := (if_pos hc).symm.trans h
      obtain rfl := Option.some.inj h
      exact ⟨hS, hB⟩
    · have h := (if_neg hc).symm.trans h
      obtain ⟨v1, ev1, h⟩ := bd h
      have z := ih v1 M hB  h
      exact ⟨hS.tr z.1, z.2⟩
theorem oX16_sixteen (fu : Nat)   (a0 : Int64)  (M : Mm) {out : Int32 × Mm} (hB : Bd RM TM M)  (h : fX16_sixteen fu  a0 M = some out) : Sm RM M out.2 ∧ Bd RM TM out.2 := by
  unfold fX16_sixteen at h
  have hS : Sm RM M M := Sm.rf
  have z := oX16_sixteen_L2 fu   fu a0 M hB  h
  exact ⟨hS.tr z.1, z.2⟩
theorem oX16_added_L37 (fu : Nat) {out : Int64 × Mm} (k6 : Option Nat → Int32 → Int32 → Int64 → Int32 → Mm → Option (Int64 × Mm)) (hk6 : ∀ (b0 : Option Nat) (b1 : Int32) (b2 : Int32) (b5 : Int64) (b7 : Int32)  (M : Mm), Bd RM TM M → inR RM b0 → k6 b0 b1 b2 b5 b7 M = some out → Sm RM M out.2 ∧ Bd RM TM out.2) (a0 : Option Nat) (a1 : Int32) (a2 : Int32) (a7 : Int32) (s0 : Int64) (s1 : Int32) (s2 : Int32) (M : Mm) (hB : Bd RM TM M) (ia0 : inR RM a0) (h : fX16_added_L37 fu k6 a0 a1 a2 a7 s0 s1 s2 M = some out) : Sm RM M out.2 ∧ Bd RM TM out.2 := by
  unfold fX16_added_L37 at h
  have hS : Sm RM M M := Sm.rf
  obtain ⟨v1, ev1, h⟩ := bd h
  have z := hk6 a0 a1 a2 v1 (a7 + (1 : Int32)) M hB ia0 h
  exact ⟨hS.tr z.1, z.2⟩
theorem oX16_added_L6 (fu : Nat) {out : Int64 × Mm}   : ∀ (n : Nat) (a0 : Option Nat) (a1 : Int32) (a2 : Int32) (a5 : Int64) (a7 : Int32)  (M : Mm), Bd RM TM M → inR RM a0 → fX16_added_L6 fu  n a0 a1 a2 a5 a7 M = some out → Sm RM M out.2 ∧ Bd RM TM out.2 := by
  intro n
  induction n with
  | zero =>
    intro a0 a1 a2 a5 a7 M hB ia0 h
    have h : (none : Option (Int64 × Mm)) = some out := h
    cases h
  | succ n ih =>
    intro a0 a1 a2 a5 a7 M hB ia0 h
    rw [fX16_added_L6] at h
    have hS : Sm RM M M := Sm.rf
    by_cases hc : a2 ≤ a7
    · have h := (if_pos hc).symm.trans h
      obtain rfl := Option.some.inj h
      exact ⟨hS, hB⟩
    · have h := (if_neg hc).symm.trans h
      obtain ⟨v1, ev1, h⟩ := bd h
      by_cases hc : (irm a7 (2 : Int32)) = 0
      · have h := (if_pos hc).symm.trans h
        have z := oX16_added_L37 fu (fun b0 b1 b2 b5 b7 M => fX16_added_L6 fu  n b0 b1 b2 b5 b7 M) ih a0 a1 a2 a7 a5 (v1 &&& (255 : Int32)) (8 : Int32) M hB ia0 h
        exact ⟨hS.tr z.1, z.2⟩
      · have h := (if_neg hc).symm.trans h
        have z := oX16_added_L37 fu (fun b0 b1 b2 b5 b7 M => fX16_added_L6 fu  n b0 b1 b2 b5 b7 M) ih a0 a1 a2 a7 a5 (v1 &&& (255 : Int32)) (0 : Int32) M hB ia0 h
        exact ⟨hS.tr z.1, z.2⟩
theorem oX16_added (fu : Nat)   (a0 : Option Nat) (a1 : Int32) (a2 : Int32) (a3 : Int64)  (M : Mm) {out : Int64 × Mm} (hB : Bd RM TM M) (ia0 : inR RM a0) (h : fX16_added fu  a0 a1 a2 a3 M = some out) : Sm RM M out.2 ∧ Bd RM TM out.2 := by
  unfold fX16_added at h
  have hS : Sm RM M M := Sm.rf
  have z := oX16_added_L6 fu   fu a0 a1 a2 a3 (0 : Int32) M hB ia0 h
  exact ⟨hS.tr z.1, z.2⟩
theorem oX16_entry_L40 (fu : Nat) {out : Option Nat × Mm} (k2 : Nat → Int32 → Int32 → Mm → Option (Option Nat × Mm)) (hk2 : ∀ (b0 : Nat) (b1 : Int32) (b2 : Int32)  (M : Mm), Bd RM TM M → RM b0 → k2 b0 b1 b2 M = some out → Sm RM M out.2 ∧ Bd RM TM out.2 ∧ inR RM out.1) (a0 : Nat) (a1 : Int32) (a2 : Int32)  (M : Mm) (hB : Bd RM TM M) (ra0 : RM a0) (h : fX16_entry_L40 fu k2 a0 a1 a2 M = some out) : Sm RM M out.2 ∧ Bd RM TM out.2 ∧ inR RM out.1 := by
  unfold fX16_entry_L40 at h
  have hS : Sm RM M M := Sm.rf
  have z := hk2 a0 a1 (a2 + (1 : Int32)) M hB ra0 h
  exact ⟨hS.tr z.1, z.2⟩
theorem oX16_entry_L2 (fu : Nat) {out : Option Nat × Mm}   : ∀ (n : Nat) (a0 : Nat) (a1 : Int32) (a2 : Int32)  (M : Mm), Bd RM TM M → RM a0 → fX16_entry_L2 fu  n a0 a1 a2 M = some out → Sm RM M out.2 ∧ Bd RM TM out.2 ∧ inR RM out.1 := by
  intro n
  induction n with
  | zero =>
    intro a0 a1 a2 M hB ra0 h
    have h : (none : Option (Option Nat × Mm)) = some out := h
    cases h
  | succ n ih =>
    intro a0 a1 a2 M hB ra0 h
    rw [fX16_entry_L2] at h
    have hS : Sm RM M M := Sm.rf
    by_cases hc : (16 : Int32) ≤ a2
    · have h := (if_pos hc).symm.trans h
      obtain rfl := Option.some.inj h
      exact ⟨hS, hB, inR_none⟩
    · have h := (if_neg hc).symm.trans h
      obtain ⟨v1, ev1, h⟩ := bd h
      have iv1 := gR_in hB (show 12 ≤ 16 ∧ 16 ≤ 16 from by decide) ev1
      obtain ⟨v2, ev2, h⟩ := bd h
      have iv2 := gB_in hB iv1 ev2
      obtain ⟨v3, ev3, h⟩ := bd h
      by_cases hc : v3 = 0
      · have h := (if_pos hc).symm.trans h
        have z := oX16_entry_L40 fu (fun b0 b1 b2 M => fX16_entry_L2 fu  n b0 b1 b2 M) ih a0 a1 a2 M hB ra0 h
        exact ⟨hS.tr z.1, z.2⟩
      · have h := (if_neg hc).symm.trans h
        obtain ⟨v4, ev4, h⟩ := bd h
        have iv4 := gR_in hB (show 12 ≤ 16 ∧ 16 ≤ 16 from by decide) ev4
        obtain ⟨v5, ev5, h⟩ := bd h
        have iv5 := gB_in hB iv4 ev5
        obtain ⟨v6, ev6, h⟩ := bd h
        by_cases hc : v6 = a1
        · have h := (if_pos hc).symm.trans h
          obtain ⟨v7, ev7, h⟩ := bd h
          have iv7 := gR_in hB (show 12 ≤ 16 ∧ 16 ≤ 16 from by decide) ev7
          obtain ⟨v8, ev8, h⟩ := bd h
          have iv8 := gB_in hB iv7 ev8
          obtain rfl := Option.some.inj h
          exact ⟨hS, hB, iv8⟩
        · have h := (if_neg hc).symm.trans h
          have z := oX16_entry_L40 fu (fun b0 b1 b2 M => fX16_entry_L2 fu  n b0 b1 b2 M) ih a0 a1 a2 M hB ra0 h
          exact ⟨hS.tr z.1, z.2⟩
theorem oX16_entry (fu : Nat)   (a0 : Nat) (a1 : Int32)  (M : Mm) {out : Option Nat × Mm} (hB : Bd RM TM M) (ra0 : RM a0) (h : fX16_entry fu  a0 a1 M = some out) : Sm RM M out.2 ∧ Bd RM TM out.2 ∧ inR RM out.1 := by
  unfold fX16_entry at h
  have hS : Sm RM M M := Sm.rf
  have z := oX16_entry_L2 fu   fu a0 a1 (0 : Int32) M hB ra0 h
  exact ⟨hS.tr z.1, z.2⟩
theorem oX16_counting (fu : Nat)   (a0 : Nat) (a1 : Int32)  (M : Mm) {out : Option Nat × Mm} (hB : Bd RM TM M) (ra0 : RM a0) (h : fX16_counting fu  a0 a1 M = some out) : Sm RM M out.2 ∧ Bd RM TM out.2 ∧ inR RM out.1 := by
  unfold fX16_counting at h
  have hS : Sm RM M M := Sm.rf
  obtain ⟨q1, eq1, h⟩ := bd h
  have rq1 := rc_in hB (show 12 ≤ 16 ∧ 16 ≤ 16 from by decide) eq1
  obtain ⟨v3, M2, eM2, h⟩ := b2d h
  have w := oX16_entry fu q1 a1 M hB rq1 eM2
  have hS := hS.tr w.1
  have iv3 := w.2.2
  have hB := w.2.1
  by_cases hc : v3 = none
  · have h := (if_pos hc).symm.trans h
    obtain rfl := Option.some.inj h
    exact ⟨hS, hB, inR_none⟩
  · have h := (if_neg hc).symm.trans h
    obtain ⟨v4, ev4, h⟩ := bd h
    obtain ⟨v5, ev5, h⟩ := bd h
    by_cases hc : (60000 : Int32) ≤ (v4 - v5)
    · have h := (if_pos hc).symm.trans h
      obtain rfl := Option.some.inj h
      exact ⟨hS, hB, inR_none⟩
    · have h := (if_neg hc).symm.trans h
      obtain rfl := Option.some.inj h
      exact ⟨hS, hB, iv3⟩
theorem oX16_packet_L40 (fu : Nat) {out : Option Nat × Mm} (k2 : Nat → Int32 → Int32 → Mm → Option (Option Nat × Mm)) (hk2 : ∀ (b0 : Nat) (b1 : Int32) (b2 : Int32)  (M : Mm), Bd RM TM M → RM b0 → k2 b0 b1 b2 M = some out → Sm RM M out.2 ∧ Bd RM TM out.2 ∧ inR RM out.1) (a0 : Nat) (a1 : Int32) (a2 : Int32)  (M : Mm) (hB : Bd RM TM M) (ra0 : RM a0) (h : fX16_packet_L40 fu k2 a0 a1 a2 M = some out) : Sm RM M out.2 ∧ Bd RM TM out.2 ∧ inR RM out.1 := by
  unfold fX16_packet_L40 at h
  have hS : Sm RM M M := Sm.rf
  have z := hk2 a0 a1 (a2 + (1 : Int32)) M hB ra0 h
  exact ⟨hS.tr z.1, z.2⟩
theorem oX16_packet_L2 (fu : Nat) {out : Option Nat × Mm}   : ∀ (n : Nat) (a0 : Nat) (a1 : Int32) (a2 : Int32)  (M : Mm), Bd RM TM M → RM a0 → fX16_packet_L2 fu  n a0 a1 a2 M = some out → Sm RM M out.2 ∧ Bd RM TM out.2 ∧ inR RM out.1 := by
  intro n
  induction n with
  | zero =>
    intro a0 a1 a2 M hB ra0 h
    have h : (none : Option (Option Nat × Mm)) = some out := h
    cases h
  | succ n ih =>
    intro a0 a1 a2 M hB ra0 h
    rw [fX16_packet_L2] at h
    have hS : Sm RM M M := Sm.rf
    by_cases hc : (8 : Int32) ≤ a2
    · have h := (if_pos hc).symm.trans h
      obtain rfl := Option.some.inj h
      exact ⟨hS, hB, inR_none⟩
    · have h := (if_neg hc).symm.trans h
      obtain ⟨v1, ev1, h⟩ := bd h
      have iv1 := gR_in hB (show 12 ≤ 16 ∧ 16 ≤ 16 from by decide) ev1
      obtain ⟨v2, ev2, h⟩ := bd h
      have iv2 := gB_in hB iv1 ev2
      obtain ⟨v3, ev3, h⟩ := bd h
      by_cases hc : v3 = 0
      · have h := (if_pos hc).symm.trans h
        have z := oX16_packet_L40 fu (fun b0 b1 b2 M => fX16_packet_L2 fu  n b0 b1 b2 M) ih a0 a1 a2 M hB ra0 h
        exact ⟨hS.tr z.1, z.2⟩
      · have h := (if_neg hc).symm.trans h
        obtain ⟨v4, ev4, h⟩ := bd h
        have iv4 := gR_in hB (show 12 ≤ 16 ∧ 16 ≤ 16 from by decide) ev4
        obtain ⟨v5, ev5, h⟩ := bd h
        have iv5 := gB_in hB iv4 ev5
        obtain ⟨v6, ev6, h⟩ := bd h
        by_cases hc : v6 = a1
        · have h := (if_pos hc).symm.trans h
          obtain ⟨v7, ev7, h⟩ := bd h
          have iv7 := gR_in hB (show 12 ≤ 16 ∧ 16 ≤ 16 from by decide) ev7
          obtain ⟨v8, ev8, h⟩ := bd h
          have iv8 := gB_in hB iv7 ev8
          obtain rfl := Option.some.inj h
          exact ⟨hS, hB, iv8⟩
        · have h := (if_neg hc).symm.trans h
          have z := oX16_packet_L40 fu (fun b0 b1 b2 M => fX16_packet_L2 fu  n b0 b1 b2 M) ih a0 a1 a2 M hB ra0 h
          exact ⟨hS.tr z.1, z.2⟩
theorem oX16_packet (fu : Nat)   (a0 : Nat) (a1 : Int32)  (M : Mm) {out : Option Nat × Mm} (hB : Bd RM TM M) (ra0 : RM a0) (h : fX16_packet fu  a0 a1 M = some out) : Sm RM M out.2 ∧ Bd RM TM out.2 ∧ inR RM out.1 := by
  unfold fX16_packet at h
  have hS : Sm RM M M := Sm.rf
  have z := oX16_packet_L2 fu   fu a0 a1 (0 : Int32) M hB ra0 h
  exact ⟨hS.tr z.1, z.2⟩
theorem oX16_remember_L151 (fu : Nat) {out : Mm}   : ∀ (n : Nat) (a0 : Nat) (a2 : Int32) (a3 : Int32) (a5 : Option Nat) (a6 : Int32)  (M : Mm), Bd RM TM M → RM a0 → inR RM a5 → fX16_remember_L151 fu  n a0 a2 a3 a5 a6 M = some out → Sm RM M out ∧ Bd RM TM out := by
  intro n
  induction n with
  | zero =>
    intro a0 a2 a3 a5 a6 M hB ra0 ia5 h
    have h : (none : Option (Mm)) = some out := h
    cases h
  | succ n ih =>
    intro a0 a2 a3 a5 a6 M hB ra0 ia5 h
    rw [fX16_remember_L151] at h
    have hS : Sm RM M M := Sm.rf
    obtain ⟨v1, ev1, h⟩ := bd h
    by_cases hc : v1 ≤ a6
    · have h := (if_pos hc).symm.trans h
      obtain ⟨v2, ev2, h⟩ := bd h
      obtain ⟨q3, eq3, h⟩ := bd h
      have rq3 := rc_in hB (show 12 ≤ 16 ∧ 16 ≤ 16 from by decide) eq3
      obtain ⟨M4, eM4, h⟩ := bd h
      have w := oX16_send fu q3 a2 a3 (2048 : Int32) v2 M hB rq3 eM4
      have hS := hS.tr w.1
      have hB := w.2
      obtain rfl := Option.some.inj h
      exact ⟨hS, hB⟩
    · have h := (if_neg hc).symm.trans h
      obtain ⟨v5, ev5, h⟩ := bd h
      have iv5 := gR_in hB (show 12 ≤ 16 ∧ 16 ≤ 16 from by decide) ev5
      obtain ⟨v6, ev6, h⟩ := bd h
      have iv6 := gR_in hB (show 12 ≤ 15 ∧ 15 ≤ 16 from by decide) ev6
      obtain ⟨v7, ev7, h⟩ := bd h
      obtain ⟨M8, eM8, h⟩ := bd h
      have w := pA_ownB hB iv5 eM8
      have hS := hS.tr w.1
      have hB := w.2
      have z := ih a0 a2 a3 a5 (a6 + (1 : Int32)) M8 hB ra0 ia5 h
      exact ⟨hS.tr z.1, z.2⟩
theorem oX16_remember_L96 (fu : Nat)   (a0 : Nat) (a1 : Int32) (a2 : Int32) (a3 : Int32) (a4 : Option Nat)  (M : Mm) {out : Mm} (hB : Bd RM TM M) (ra0 : RM a0) (ia4 : inR RM a4) (h : fX16_remember_L96 fu  a0 a1 a2 a3 a4 M = some out) : Sm RM M out ∧ Bd RM TM out := by
  unfold fX16_remember_L96 at h
  have hS : Sm RM M M := Sm.rf
  obtain ⟨M1, eM1, h⟩ := bd h
  have w := pZ_own hB (show 12 ≤ 14 ∧ 14 ≤ 16 from by decide) eM1
  have hS := hS.tr w.1
  have hB := w.2
  obtain ⟨M2, eM2, h⟩ := bd h
  have w := pF_own hB (show 12 ≤ 14 ∧ 14 ≤ 16 from by decide) eM2
  have hS := hS.tr w.1
  have hB := w.2
  obtain ⟨M3, eM3, h⟩ := bd h
  have w := pF_own hB (show 12 ≤ 14 ∧ 14 ≤ 16 from by decide) eM3
  have hS := hS.tr w.1
  have hB := w.2
  obtain ⟨M4, eM4, h⟩ := bd h
  have w := pF_own hB (show 12 ≤ 14 ∧ 14 ≤ 16 from by decide) eM4
  have hS := hS.tr w.1
  have hB := w.2
  obtain ⟨v5, ev5, h⟩ := bd h
  obtain ⟨M6, eM6, h⟩ := bd h
  have w := pF_own hB (show 12 ≤ 14 ∧ 14 ≤ 16 from by decide) eM6
  have hS := hS.tr w.1
  have hB := w.2
  obtain ⟨q7, eq7, h⟩ := bd h
  have rq7 := rc_in hB (show 12 ≤ 16 ∧ 16 ≤ 16 from by decide) eq7
  obtain ⟨v9, M8, eM8, h⟩ := b2d h
  have w := oX16_packet fu q7 a1 M6 hB rq7 eM8
  have hS := hS.tr w.1
  have iv9 := w.2.2
  have hB := w.2.1
  by_cases hc : v9 = none
  · have h := (if_pos hc).symm.trans h
    obtain rfl := Option.some.inj h
    exact ⟨hS, hB⟩
  · have h := (if_neg hc).symm.trans h
    obtain ⟨M10, eM10, h⟩ := bd h
    have w := pZ_own hB (show 12 ≤ 15 ∧ 15 ≤ 16 from by decide) eM10
    have hS := hS.tr w.1
    have hB := w.2
    have z := oX16_remember_L151 fu   fu a0 a2 a3 v9 (0 : Int32) M10 hB ra0 iv9 h
    exact ⟨hS.tr z.1, z.2⟩
theorem oX16_remember_L90 (fu : Nat) {out : Mm} (k23 : Nat → Int32 → Int32 → Int32 → Option Nat → Int32 → Mm → Option (Mm)) (hk23 : ∀ (b0 : Nat) (b1 : Int32) (b2 : Int32) (b3 : Int32) (b4 : Option Nat) (b5 : Int32)  (M : Mm), Bd RM TM M → RM b0 → inR RM b4 → k23 b0 b1 b2 b3 b4 b5 M = some out → Sm RM M out ∧ Bd RM TM out) (a0 : Nat) (a1 : Int32) (a2 : Int32) (a3 : Int32) (a4 : Option Nat) (a5 : Int32)  (M : Mm) (hB : Bd RM TM M) (ra0 : RM a0) (ia4 : inR RM a4) (h : fX16_remember_L90 fu k23 a0 a1 a2 a3 a4 a5 M = some out) : Sm RM M out ∧ Bd RM TM out := by
  unfold fX16_remember_L90 at h
  have hS : Sm RM M M := Sm.rf
  have z := hk23 a0 a1 a2 a3 a4 (a5 + (1 : Int32)) M hB ra0 ia4 h
  exact ⟨hS.tr z.1, z.2⟩
theorem oX16_remember_L81 (fu : Nat) {out : Mm} (k23 : Nat → Int32 → Int32 → Int32 → Option Nat → Int32 → Mm → Option (Mm)) (hk23 : ∀ (b0 : Nat) (b1 : Int32) (b2 : Int32) (b3 : Int32) (b4 : Option Nat) (b5 : Int32)  (M : Mm), Bd RM TM M → RM b0 → inR RM b4 → k23 b0 b1 b2 b3 b4 b5 M = some out → Sm RM M out ∧ Bd RM TM out) (a0 : Nat) (a1 : Int32) (a2 : Int32) (a3 : Int32) (a5 : Int32)  (M : Mm) (hB : Bd RM TM M) (ra0 : RM a0) (h : fX16_remember_L81 fu k23 a0 a1 a2 a3 a5 M = some out) : Sm RM M out ∧ Bd RM TM out := by
  unfold fX16_remember_L81 at h
  have hS : Sm RM M M := Sm.rf
  obtain ⟨v1, ev1, h⟩ := bd h
  have iv1 := gR_in hB (show 12 ≤ 16 ∧ 16 ≤ 16 from by decide) ev1
  obtain ⟨v2, ev2, h⟩ := bd h
  have iv2 := gB_in hB iv1 ev2
  have z := oX16_remember_L90 fu k23 hk23 a0 a1 a2 a3 v2 a5 M hB ra0 iv2 h
  exact ⟨hS.tr z.1, z.2⟩
theorem oX16_remember_L48 (fu : Nat) {out : Mm} (k23 : Nat → Int32 → Int32 → Int32 → Option Nat → Int32 → Mm → Option (Mm)) (hk23 : ∀ (b0 : Nat) (b1 : Int32) (b2 : Int32) (b3 : Int32) (b4 : Option Nat) (b5 : Int32)  (M : Mm), Bd RM TM M → RM b0 → inR RM b4 → k23 b0 b1 b2 b3 b4 b5 M = some out → Sm RM M out ∧ Bd RM TM out) (a0 : Nat) (a1 : Int32) (a2 : Int32) (a3 : Int32) (a4 : Option Nat) (a5 : Int32) (s0 : Int32) (M : Mm) (hB : Bd RM TM M) (ra0 : RM a0) (ia4 : inR RM a4) (h : fX16_remember_L48 fu k23 a0 a1 a2 a3 a4 a5 s0 M = some out) : Sm RM M out ∧ Bd RM TM out := by
  unfold fX16_remember_L48 at h
  have hS : Sm RM M M := Sm.rf
  obtain ⟨v1, ev1, h⟩ := bd h
  by_cases hc : v1 = 0
  · have h := (if_pos hc).symm.trans h
    have z := oX16_remember_L90 fu k23 hk23 a0 a1 a2 a3 a4 a5 M hB ra0 ia4 h
    exact ⟨hS.tr z.1, z.2⟩
  · have h := (if_neg hc).symm.trans h
    by_cases hc : s0 = 0
    · have h := (if_pos hc).symm.trans h
      obtain ⟨v2, ev2, h⟩ := bd h
      have iv2 := gR_in hB (show 12 ≤ 16 ∧ 16 ≤ 16 from by decide) ev2
      obtain ⟨v3, ev3, h⟩ := bd h
      have iv3 := gB_in hB iv2 ev3
      obtain ⟨v4, ev4, h⟩ := bd h
      obtain ⟨v5, ev5, h⟩ := bd h
      by_cases hc : v5 ≤ v4
      · have h := (if_pos hc).symm.trans h
        have z := oX16_remember_L90 fu k23 hk23 a0 a1 a2 a3 a4 a5 M hB ra0 ia4 h
        exact ⟨hS.tr z.1, z.2⟩
      · have h := (if_neg hc).symm.trans h
        have z := oX16_remember_L81 fu k23 hk23 a0 a1 a2 a3 a5 M hB ra0 h
        exact ⟨hS.tr z.1, z.2⟩
    · have h := (if_neg hc).symm.trans h
      have z := oX16_remember_L81 fu k23 hk23 a0 a1 a2 a3 a5 M hB ra0 h
      exact ⟨hS.tr z.1, z.2⟩
theorem oX16_remember_L23 (fu : Nat) {out : Mm}   : ∀ (n : Nat) (a0 : Nat) (a1 : Int32) (a2 : Int32) (a3 : Int32) (a4 : Option Nat) (a5 : Int32)  (M : Mm), Bd RM TM M → RM a0 → inR RM a4 → fX16_remember_L23 fu  n a0 a1 a2 a3 a4 a5 M = some out → Sm RM M out ∧ Bd RM TM out := by
  intro n
  induction n with
  | zero =>
    intro a0 a1 a2 a3 a4 a5 M hB ra0 ia4 h
    have h : (none : Option (Mm)) = some out := h
    cases h
  | succ n ih =>
    intro a0 a1 a2 a3 a4 a5 M hB ra0 ia4 h
    rw [fX16_remember_L23] at h
    have hS : Sm RM M M := Sm.rf
    by_cases hc : (16 : Int32) ≤ a5
    · have h := (if_pos hc).symm.trans h
      have z := oX16_remember_L96 fu   a0 a1 a2 a3 a4 M hB ra0 ia4 h
      exact ⟨hS.tr z.1, z.2⟩
    · have h := (if_neg hc).symm.trans h
      obtain ⟨v1, ev1, h⟩ := bd h
      have iv1 := gR_in hB (show 12 ≤ 16 ∧ 16 ≤ 16 from by decide) ev1
      obtain ⟨v2, ev2, h⟩ := bd h
      have iv2 := gB_in hB iv1 ev2
      obtain ⟨v3, ev3, h⟩ := bd h
      by_cases hc : v3 = 0
      · have h := (if_pos hc).symm.trans h
        have z := oX16_remember_L48 fu (fun b0 b1 b2 b3 b4 b5 M => fX16_remember_L23 fu  n b0 b1 b2 b3 b4 b5 M) ih a0 a1 a2 a3 a4 a5 (1 : Int32) M hB ra0 ia4 h
        exact ⟨hS.tr z.1, z.2⟩
      · have h := (if_neg hc).symm.trans h
        have z := oX16_remember_L48 fu (fun b0 b1 b2 b3 b4 b5 M => fX16_remember_L23 fu  n b0 b1 b2 b3 b4 b5 M) ih a0 a1 a2 a3 a4 a5 (0 : Int32) M hB ra0 ia4 h
        exact ⟨hS.tr z.1, z.2⟩
theorem oX16_remember (fu : Nat)   (a0 : Nat) (a1 : Int32) (a2 : Int32) (a3 : Int32)  (M : Mm) {out : Mm} (hB : Bd RM TM M) (ra0 : RM a0) (h : fX16_remember fu  a0 a1 a2 a3 M = some out) : Sm RM M out ∧ Bd RM TM out := by
  unfold fX16_remember at h
  have hS : Sm RM M M := Sm.rf
  obtain ⟨q1, eq1, h⟩ := bd h
  have rq1 := rc_in hB (show 12 ≤ 16 ∧ 16 ≤ 16 from by decide) eq1
  obtain ⟨v3, M2, eM2, h⟩ := b2d h
  have w := oX16_entry fu q1 a1 M hB rq1 eM2
  have hS := hS.tr w.1
  have iv3 := w.2.2
  have hB := w.2.1
  by_cases hc : v3 = none
  · have h := (if_pos hc).symm.trans h
    obtain ⟨v4, ev4, h⟩ := bd h
    have iv4 := gR_in hB (show 12 ≤ 16 ∧ 16 ≤ 16 from by decide) ev4
    obtain ⟨v5, ev5, h⟩ := bd h
    have iv5 := gB_in hB iv4 ev5
    have z := oX16_remember_L23 fu   fu a0 a1 a2 a3 v5 (1 : Int32) M2 hB ra0 iv5 h
    exact ⟨hS.tr z.1, z.2⟩
  · have h := (if_neg hc).symm.trans h
    have z := oX16_remember_L96 fu   a0 a1 a2 a3 v3 M2 hB ra0 iv3 h
    exact ⟨hS.tr z.1, z.2⟩
theorem oX16_arpFrame (fu : Nat)   (a0 : Nat) (a1 : Int32) (a2 : Int32) (a3 : Int32) (a4 : Int32) (a5 : Int32) (a6 : Int32)  (M : Mm) {out : Mm} (hB : Bd RM TM M) (ra0 : RM a0) (h : fX16_arpFrame fu  a0 a1 a2 a3 a4 a5 a6 M = some out) : Sm RM M out ∧ Bd RM TM out := by
  unfold fX16_arpFrame at h
  have hS : Sm RM M M := Sm.rf
  obtain ⟨q1, eq1, h⟩ := bd h
  have rq1 := rc_in hB (show 12 ≤ 16 ∧ 16 ≤ 16 from by decide) eq1
  obtain ⟨M2, eM2, h⟩ := bd h
  have w := oX16_put fu q1 (14 : Int32) (4 : Int32) (67584 : Int32) M hB rq1 eM2
  have hS := hS.tr w.1
  have hB := w.2
  obtain ⟨q3, eq3, h⟩ := bd h
  have rq3 := rc_in hB (show 12 ≤ 16 ∧ 16 ≤ 16 from by decide) eq3
  obtain ⟨M4, eM4, h⟩ := bd h
  have w := oX16_put fu q3 (18 : Int32) (2 : Int32) (1540 : Int32) M2 hB rq3 eM4
  have hS := hS.tr w.1
  have hB := w.2
  obtain ⟨q5, eq5, h⟩ := bd h
  have rq5 := rc_in hB (show 12 ≤ 16 ∧ 16 ≤ 16 from by decide) eq5
  obtain ⟨M6, eM6, h⟩ := bd h
  have w := oX16_put fu q5 (20 : Int32) (2 : Int32) a1 M4 hB rq5 eM6
  have hS := hS.tr w.1
  have hB := w.2
  obtain ⟨v7, ev7, h⟩ := bd h
  obtain ⟨q8, eq8, h⟩ := bd h
  have rq8 := rc_in hB (show 12 ≤ 16 ∧ 16 ≤ 16 from by decide) eq8
  obtain ⟨M9, eM9, h⟩ := bd h
  have w := oX16_put fu q8 (22 : Int32) (2 : Int32) v7 M6 hB rq8 eM9
  have hS := hS.tr w.1
  have hB := w.2
  obtain ⟨v10, ev10, h⟩ := bd h
  obtain ⟨q11, eq11, h⟩ := bd h
  have rq11 := rc_in hB (show 12 ≤ 16 ∧ 16 ≤ 16 from by decide) eq11
  obtain ⟨M12, eM12, h⟩ := bd h
  have w := oX16_put fu q11 (24 : Int32) (4 : Int32) v10 M9 hB rq11 eM12
  have hS := hS.tr w.1
  have hB := w.2
  obtain ⟨v13, ev13, h⟩ := bd h
  obtain ⟨q14, eq14, h⟩ := bd h
  have rq14 := rc_in hB (show 12 ≤ 16 ∧ 16 ≤ 16 from by decide) eq14
  obtain ⟨M15, eM15, h⟩ := bd h
  have w := oX16_put fu q14 (28 : Int32) (4 : Int32) v13 M12 hB rq14 eM15
  have hS := hS.tr w.1
  have hB := w.2
  obtain ⟨q16, eq16, h⟩ := bd h
  have rq16 := rc_in hB (show 12 ≤ 16 ∧ 16 ≤ 16 from by decide) eq16
  obtain ⟨M17, eM17, h⟩ := bd h
  have w := oX16_put fu q16 (32 : Int32) (2 : Int32) a4 M15 hB rq16 eM17
  have hS := hS.tr w.1
  have hB := w.2
  obtain ⟨q18, eq18, h⟩ := bd h
  have rq18 := rc_in hB (show 12 ≤ 16 ∧ 16 ≤ 16 from by decide) eq18
  obtain ⟨M19, eM19, h⟩ := bd h
  have w := oX16_put fu q18 (34 : Int32) (4 : Int32) a5 M17 hB rq18 eM19
  have hS := hS.tr w.1
  have hB := w.2
  obtain ⟨q20, eq20, h⟩ := bd h
  have rq20 := rc_in hB (show 12 ≤ 16 ∧ 16 ≤ 16 from by decide) eq20
  obtain ⟨M21, eM21, h⟩ := bd h
  have w := oX16_put fu q20 (38 : Int32) (4 : Int32) a6 M19 hB rq20 eM21
  have hS := hS.tr w.1
  have hB := w.2
  obtain ⟨q22, eq22, h⟩ := bd h
  have rq22 := rc_in hB (show 12 ≤ 16 ∧ 16 ≤ 16 from by decide) eq22
  obtain ⟨M23, eM23, h⟩ := bd h
  have w := oX16_send fu q22 a2 a3 (2054 : Int32) (28 : Int32) M21 hB rq22 eM23
  have hS := hS.tr w.1
  have hB := w.2
  obtain rfl := Option.some.inj h
  exact ⟨hS, hB⟩
theorem oX16_ask (fu : Nat)   (a0 : Nat) (a1 : Int32)  (M : Mm) {out : Mm} (hB : Bd RM TM M) (ra0 : RM a0) (h : fX16_ask fu  a0 a1 M = some out) : Sm RM M out ∧ Bd RM TM out := by
  unfold fX16_ask at h
  have hS : Sm RM M M := Sm.rf
  obtain ⟨q1, eq1, h⟩ := bd h
  have rq1 := rc_in hB (show 12 ≤ 16 ∧ 16 ≤ 16 from by decide) eq1
  obtain ⟨M2, eM2, h⟩ := bd h
  have w := oX16_arpFrame fu q1 (1 : Int32) (65535 : Int32) (-1 : Int32) (0 : Int32) (0 : Int32) a1 M hB rq1 eM2
  have hS := hS.tr w.1
  have hB := w.2
  obtain rfl := Option.some.inj h
  exact ⟨hS, hB⟩
theorem oX16_trayHalf (fu : Nat)   (a0 : Nat) (a1 : Int32)  (M : Mm) {out : Int32 × Mm} (hB : Bd RM TM M) (ra0 : RM a0) (h : fX16_trayHalf fu  a0 a1 M = some out) : Sm RM M out.2 ∧ Bd RM TM out.2 := by
  unfold fX16_trayHalf at h
  have hS : Sm RM M M := Sm.rf
  obtain ⟨v1, ev1, h⟩ := bd h
  have iv1 := gR_in hB (show 12 ≤ 16 ∧ 16 ≤ 16 from by decide) ev1
  obtain ⟨v2, ev2, h⟩ := bd h
  obtain ⟨v3, ev3, h⟩ := bd h
  have iv3 := gR_in hB (show 12 ≤ 16 ∧ 16 ≤ 16 from by decide) ev3
  obtain ⟨v4, ev4, h⟩ := bd h
  obtain rfl := Option.some.inj h
  exact ⟨hS, hB⟩
theorem oX16_trayWord (fu : Nat)   (a0 : Nat) (a1 : Int32)  (M : Mm) {out : Int32 × Mm} (hB : Bd RM TM M) (ra0 : RM a0) (h : fX16_trayWord fu  a0 a1 M = some out) : Sm RM M out.2 ∧ Bd RM TM out.2 := by
  unfold fX16_trayWord at h
  have hS : Sm RM M M := Sm.rf
  obtain ⟨q1, eq1, h⟩ := bd h
  have rq1 := rc_in hB (show 12 ≤ 16 ∧ 16 ≤ 16 from by decide) eq1
  obtain ⟨v3, M2, eM2, h⟩ := b2d h
  have w := oX16_trayHalf fu q1 a1 M hB rq1 eM2
  have hS := hS.tr w.1
  have hB := w.2
  obtain ⟨q4, eq4, h⟩ := bd h
  have rq4 := rc_in hB (show 12 ≤ 16 ∧ 16 ≤ 16 from by decide) eq4
  obtain ⟨v6, M5, eM5, h⟩ := b2d h
  have w := oX16_trayHalf fu q4 (a1 + (2 : Int32)) M2 hB rq4 eM5
  have hS := hS.tr w.1
  have hB := w.2
  obtain rfl := Option.some.inj h
  exact ⟨hS, hB⟩
theorem oX16_arp_L116 (fu : Nat)   (a0 : Nat) (a1 : Int32) (a2 : Int32) (a3 : Int32) (a4 : Int32) (a5 : Int32)  (M : Mm) {out : Mm} (hB : Bd RM TM M) (ra0 : RM a0) (h : fX16_arp_L116 fu  a0 a1 a2 a3 a4 a5 M = some out) : Sm RM M out ∧ Bd RM TM out := by
  unfold fX16_arp_L116 at h
  have hS : Sm RM M M := Sm.rf
  by_cases hc : a1 = (1 : Int32)
  · have h := (if_pos hc).symm.trans h
    obtain ⟨v1, ev1, h⟩ := bd h
    by_cases hc : a5 = v1
    · have h := (if_pos hc).symm.trans h
      obtain ⟨q2, eq2, h⟩ := bd h
      have rq2 := rc_in hB (show 12 ≤ 16 ∧ 16 ≤ 16 from by decide) eq2
      obtain ⟨M3, eM3, h⟩ := bd h
      have w := oX16_arpFrame fu q2 (2 : Int32) a2 a3 a2 a3 a4 M hB rq2 eM3
      have hS := hS.tr w.1
      have hB := w.2
      obtain rfl := Option.some.inj h
      exact ⟨hS, hB⟩
    · have h := (if_neg hc).symm.trans h
      obtain rfl := Option.some.inj h
      exact ⟨hS, hB⟩
  · have h := (if_neg hc).symm.trans h
    obtain rfl := Option.some.inj h
    exact ⟨hS, hB⟩
theorem oX16_arp_L108 (fu : Nat)   (a0 : Nat) (a1 : Int32) (a2 : Int32) (a3 : Int32) (a4 : Int32) (a5 : Int32)  (M : Mm) {out : Mm} (hB : Bd RM TM M) (ra0 : RM a0) (h : fX16_arp_L108 fu  a0 a1 a2 a3 a4 a5 M = some out) : Sm RM M out ∧ Bd RM TM out := by
  unfold fX16_arp_L108 at h
  have hS : Sm RM M M := Sm.rf
  obtain ⟨q1, eq1, h⟩ := bd h
  have rq1 := rc_in hB (show 12 ≤ 16 ∧ 16 ≤ 16 from by decide) eq1
  obtain ⟨M2, eM2, h⟩ := bd h
  have w := oX16_remember fu q1 a4 a2 a3 M hB rq1 eM2
  have hS := hS.tr w.1
  have hB := w.2
  have z := oX16_arp_L116 fu   a0 a1 a2 a3 a4 a5 M2 hB ra0 h
  exact ⟨hS.tr z.1, z.2⟩
theorem oX16_arp_L51 (fu : Nat)   (a0 : Nat) (a1 : Int32)  (M : Mm) {out : Mm} (hB : Bd RM TM M) (ra0 : RM a0) (h : fX16_arp_L51 fu  a0 a1 M = some out) : Sm RM M out ∧ Bd RM TM out := by
  unfold fX16_arp_L51 at h
  have hS : Sm RM M M := Sm.rf
  obtain ⟨q1, eq1, h⟩ := bd h
  have rq1 := rc_in hB (show 12 ≤ 16 ∧ 16 ≤ 16 from by decide) eq1
  obtain ⟨v3, M2, eM2, h⟩ := b2d h
  have w := oX16_trayHalf fu q1 (22 : Int32) M hB rq1 eM2
  have hS := hS.tr w.1
  have hB := w.2
  obtain ⟨q4, eq4, h⟩ := bd h
  have rq4 := rc_in hB (show 12 ≤ 16 ∧ 16 ≤ 16 from by decide) eq4
  obtain ⟨v6, M5, eM5, h⟩ := b2d h
  have w := oX16_trayWord fu q4 (24 : Int32) M2 hB rq4 eM5
  have hS := hS.tr w.1
  have hB := w.2
  obtain ⟨q7, eq7, h⟩ := bd h
  have rq7 := rc_in hB (show 12 ≤ 16 ∧ 16 ≤ 16 from by decide) eq7
  obtain ⟨v9, M8, eM8, h⟩ := b2d h
  have w := oX16_trayWord fu q7 (28 : Int32) M5 hB rq7 eM8
  have hS := hS.tr w.1
  have hB := w.2
  obtain ⟨q10, eq10, h⟩ := bd h
  have rq10 := rc_in hB (show 12 ≤ 16 ∧ 16 ≤ 16 from by decide) eq10
  obtain ⟨v12, M11, eM11, h⟩ := b2d h
  have w := oX16_trayWord fu q10 (38 : Int32) M8 hB rq10 eM11
  have hS := hS.tr w.1
  have hB := w.2
  obtain ⟨q13, eq13, h⟩ := bd h
  have rq13 := rc_in hB (show 12 ≤ 16 ∧ 16 ≤ 16 from by decide) eq13
  obtain ⟨v15, M14, eM14, h⟩ := b2d h
  have w := oX16_entry fu q13 v9 M11 hB rq13 eM14
  have hS := hS.tr w.1
  have iv15 := w.2.2
  have hB := w.2.1
  by_cases hc : v15 = none
  · have h := (if_pos hc).symm.trans h
    obtain ⟨v16, ev16, h⟩ := bd h
    by_cases hc : v12 = v16
    · have h := (if_pos hc).symm.trans h
      obtain ⟨v17, ev17, h⟩ := bd h
      by_cases hc : v9 = v17
      · have h := (if_pos hc).symm.trans h
        have z := oX16_arp_L116 fu   a0 a1 v3 v6 v9 v12 M14 hB ra0 h
        exact ⟨hS.tr z.1, z.2⟩
      · have h := (if_neg hc).symm.trans h
        have z := oX16_arp_L108 fu   a0 a1 v3 v6 v9 v12 M14 hB ra0 h
        exact ⟨hS.tr z.1, z.2⟩
    · have h := (if_neg hc).symm.trans h
      have z := oX16_arp_L116 fu   a0 a1 v3 v6 v9 v12 M14 hB ra0 h
      exact ⟨hS.tr z.1, z.2⟩
  · have h := (if_neg hc).symm.trans h
    have z := oX16_arp_L108 fu   a0 a1 v3 v6 v9 v12 M14 hB ra0 h
    exact ⟨hS.tr z.1, z.2⟩
theorem oX16_arp (fu : Nat)   (a0 : Nat)  (M : Mm) {out : Mm} (hB : Bd RM TM M) (ra0 : RM a0) (h : fX16_arp fu  a0 M = some out) : Sm RM M out ∧ Bd RM TM out := by
  unfold fX16_arp at h
  have hS : Sm RM M M := Sm.rf
  obtain ⟨v1, ev1, h⟩ := bd h
  by_cases hc : v1 < (42 : Int32)
  · have h := (if_pos hc).symm.trans h
    obtain rfl := Option.some.inj h
    exact ⟨hS, hB⟩
  · have h := (if_neg hc).symm.trans h
    obtain ⟨q2, eq2, h⟩ := bd h
    have rq2 := rc_in hB (show 12 ≤ 16 ∧ 16 ≤ 16 from by decide) eq2
    obtain ⟨v4, M3, eM3, h⟩ := b2d h
    have w := oX16_trayWord fu q2 (14 : Int32) M hB rq2 eM3
    have hS := hS.tr w.1
    have hB := w.2
    by_cases hc : v4 = (67584 : Int32)
    · have h := (if_pos hc).symm.trans h
      obtain ⟨q5, eq5, h⟩ := bd h
      have rq5 := rc_in hB (show 12 ≤ 16 ∧ 16 ≤ 16 from by decide) eq5
      obtain ⟨v7, M6, eM6, h⟩ := b2d h
      have w := oX16_trayHalf fu q5 (18 : Int32) M3 hB rq5 eM6
      have hS := hS.tr w.1
      have hB := w.2
      by_cases hc : v7 = (1540 : Int32)
      · have h := (if_pos hc).symm.trans h
        obtain ⟨q8, eq8, h⟩ := bd h
        have rq8 := rc_in hB (show 12 ≤ 16 ∧ 16 ≤ 16 from by decide) eq8
        obtain ⟨v10, M9, eM9, h⟩ := b2d h
        have w := oX16_trayHalf fu q8 (20 : Int32) M6 hB rq8 eM9
        have hS := hS.tr w.1
        have hB := w.2
        by_cases hc : v10 = (1 : Int32)
        · have h := (if_pos hc).symm.trans h
          have z := oX16_arp_L51 fu   a0 v10 M9 hB ra0 h
          exact ⟨hS.tr z.1, z.2⟩
        · have h := (if_neg hc).symm.trans h
          by_cases hc : v10 = (2 : Int32)
          · have h := (if_pos hc).symm.trans h
            have z := oX16_arp_L51 fu   a0 v10 M9 hB ra0 h
            exact ⟨hS.tr z.1, z.2⟩
          · have h := (if_neg hc).symm.trans h
            obtain rfl := Option.some.inj h
            exact ⟨hS, hB⟩
      · have h := (if_neg hc).symm.trans h
        obtain rfl := Option.some.inj h
        exact ⟨hS, hB⟩
    · have h := (if_neg hc).symm.trans h
      obtain rfl := Option.some.inj h
      exact ⟨hS, hB⟩
theorem oX16_ipOut_L271 (fu : Nat) {out : Mm}   : ∀ (n : Nat) (a0 : Nat) (a4 : Int32) (a6 : Option Nat) (a7 : Int32) (a8 : Int32)  (M : Mm), Bd RM TM M → RM a0 → inR RM a6 → fX16_ipOut_L271 fu  n a0 a4 a6 a7 a8 M = some out → Sm RM M out ∧ Bd RM TM out := by
  intro n
  induction n with
  | zero =>
    intro a0 a4 a6 a7 a8 M hB ra0 ia6 h
    have h : (none : Option (Mm)) = some out := h
    cases h
  | succ n ih =>
    intro a0 a4 a6 a7 a8 M hB ra0 ia6 h
    rw [fX16_ipOut_L271] at h
    have hS : Sm RM M M := Sm.rf
    obtain ⟨v1, ev1, h⟩ := bd h
    by_cases hc : v1 ≤ a8
    · have h := (if_pos hc).symm.trans h
      by_cases hc : a7 = 0
      · have h := (if_pos hc).symm.trans h
        obtain rfl := Option.some.inj h
        exact ⟨hS, hB⟩
      · have h := (if_neg hc).symm.trans h
        obtain ⟨v2, ev2, h⟩ := bd h
        obtain ⟨M3, eM3, h⟩ := bd h
        have w := pF_own hB (show 12 ≤ 15 ∧ 15 ≤ 16 from by decide) eM3
        have hS := hS.tr w.1
        have hB := w.2
        obtain ⟨M4, eM4, h⟩ := bd h
        have w := pF_own hB (show 12 ≤ 15 ∧ 15 ≤ 16 from by decide) eM4
        have hS := hS.tr w.1
        have hB := w.2
        obtain ⟨v5, ev5, h⟩ := bd h
        obtain ⟨M6, eM6, h⟩ := bd h
        have w := pF_own hB (show 12 ≤ 16 ∧ 16 ≤ 16 from by decide) eM6
        have hS := hS.tr w.1
        have hB := w.2
        obtain ⟨v7, ev7, h⟩ := bd h
        obtain ⟨M8, eM8, h⟩ := bd h
        have w := pF_own hB (show 12 ≤ 15 ∧ 15 ≤ 16 from by decide) eM8
        have hS := hS.tr w.1
        have hB := w.2
        obtain ⟨q9, eq9, h⟩ := bd h
        have rq9 := rc_in hB (show 12 ≤ 16 ∧ 16 ≤ 16 from by decide) eq9
        obtain ⟨M10, eM10, h⟩ := bd h
        have w := oX16_ask fu q9 a4 M8 hB rq9 eM10
        have hS := hS.tr w.1
        have hB := w.2
        obtain rfl := Option.some.inj h
        exact ⟨hS, hB⟩
    · have h := (if_neg hc).symm.trans h
      obtain ⟨v11, ev11, h⟩ := bd h
      have iv11 := gR_in hB (show 12 ≤ 15 ∧ 15 ≤ 16 from by decide) ev11
      obtain ⟨v12, ev12, h⟩ := bd h
      have iv12 := gR_in hB (show 12 ≤ 16 ∧ 16 ≤ 16 from by decide) ev12
      obtain ⟨v13, ev13, h⟩ := bd h
      obtain ⟨M14, eM14, h⟩ := bd h
      have w := pA_ownB hB iv11 eM14
      have hS := hS.tr w.1
      have hB := w.2
      have z := ih a0 a4 a6 a7 (a8 + (1 : Int32)) M14 hB ra0 ia6 h
      exact ⟨hS.tr z.1, z.2⟩
theorem oX16_ipOut_L240 (fu : Nat)   (a0 : Nat) (a3 : Int32) (a4 : Int32) (a6 : Option Nat) (a7 : Int32)  (M : Mm) {out : Mm} (hB : Bd RM TM M) (ra0 : RM a0) (ia6 : inR RM a6) (h : fX16_ipOut_L240 fu  a0 a3 a4 a6 a7 M = some out) : Sm RM M out ∧ Bd RM TM out := by
  unfold fX16_ipOut_L240 at h
  have hS : Sm RM M M := Sm.rf
  by_cases hc : a6 = none
  · have h := (if_pos hc).symm.trans h
    obtain rfl := Option.some.inj h
    exact ⟨hS, hB⟩
  · have h := (if_neg hc).symm.trans h
    obtain ⟨M1, eM1, h⟩ := bd h
    have w := pZ_own hB (show 12 ≤ 15 ∧ 15 ≤ 16 from by decide) eM1
    have hS := hS.tr w.1
    have hB := w.2
    obtain ⟨M2, eM2, h⟩ := bd h
    have w := pF_own hB (show 12 ≤ 15 ∧ 15 ≤ 16 from by decide) eM2
    have hS := hS.tr w.1
    have hB := w.2
    obtain ⟨M3, eM3, h⟩ := bd h
    have w := pF_own hB (show 12 ≤ 15 ∧ 15 ≤ 16 from by decide) eM3
    have hS := hS.tr w.1
    have hB := w.2
    have z := oX16_ipOut_L271 fu   fu a0 a4 a6 a7 (0 : Int32) M3 hB ra0 ia6 h
    exact ⟨hS.tr z.1, z.2⟩
theorem oX16_ipOut_L234 (fu : Nat) {out : Mm} (k200 : Nat → Int32 → Int32 → Option Nat → Int32 → Int32 → Mm → Option (Mm)) (hk200 : ∀ (b0 : Nat) (b3 : Int32) (b4 : Int32) (b6 : Option Nat) (b7 : Int32) (b8 : Int32)  (M : Mm), Bd RM TM M → RM b0 → inR RM b6 → k200 b0 b3 b4 b6 b7 b8 M = some out → Sm RM M out ∧ Bd RM TM out) (a0 : Nat) (a3 : Int32) (a4 : Int32) (a6 : Option Nat) (a7 : Int32) (a8 : Int32)  (M : Mm) (hB : Bd RM TM M) (ra0 : RM a0) (ia6 : inR RM a6) (h : fX16_ipOut_L234 fu k200 a0 a3 a4 a6 a7 a8 M = some out) : Sm RM M out ∧ Bd RM TM out := by
  unfold fX16_ipOut_L234 at h
  have hS : Sm RM M M := Sm.rf
  have z := hk200 a0 a3 a4 a6 a7 (a8 + (1 : Int32)) M hB ra0 ia6 h
  exact ⟨hS.tr z.1, z.2⟩
theorem oX16_ipOut_L200 (fu : Nat) {out : Mm}   : ∀ (n : Nat) (a0 : Nat) (a3 : Int32) (a4 : Int32) (a6 : Option Nat) (a7 : Int32) (a8 : Int32)  (M : Mm), Bd RM TM M → RM a0 → inR RM a6 → fX16_ipOut_L200 fu  n a0 a3 a4 a6 a7 a8 M = some out → Sm RM M out ∧ Bd RM TM out := by
  intro n
  induction n with
  | zero =>
    intro a0 a3 a4 a6 a7 a8 M hB ra0 ia6 h
    have h : (none : Option (Mm)) = some out := h
    cases h
  | succ n ih =>
    intro a0 a3 a4 a6 a7 a8 M hB ra0 ia6 h
    rw [fX16_ipOut_L200] at h
    have hS : Sm RM M M := Sm.rf
    by_cases hc : (8 : Int32) ≤ a8
    · have h := (if_pos hc).symm.trans h
      have z := oX16_ipOut_L240 fu   a0 a3 a4 a6 a7 M hB ra0 ia6 h
      exact ⟨hS.tr z.1, z.2⟩
    · have h := (if_neg hc).symm.trans h
      by_cases hc : a6 = none
      · have h := (if_pos hc).symm.trans h
        obtain ⟨v1, ev1, h⟩ := bd h
        have iv1 := gR_in hB (show 12 ≤ 16 ∧ 16 ≤ 16 from by decide) ev1
        obtain ⟨v2, ev2, h⟩ := bd h
        have iv2 := gB_in hB iv1 ev2
        obtain ⟨v3, ev3, h⟩ := bd h
        by_cases hc : v3 = 0
        · have h := (if_pos hc).symm.trans h
          obtain ⟨v4, ev4, h⟩ := bd h
          have iv4 := gR_in hB (show 12 ≤ 16 ∧ 16 ≤ 16 from by decide) ev4
          obtain ⟨v5, ev5, h⟩ := bd h
          have iv5 := gB_in hB iv4 ev5
          have z := oX16_ipOut_L234 fu (fun b0 b3 b4 b6 b7 b8 M => fX16_ipOut_L200 fu  n b0 b3 b4 b6 b7 b8 M) ih a0 a3 a4 v5 a7 a8 M hB ra0 iv5 h
          exact ⟨hS.tr z.1, z.2⟩
        · have h := (if_neg hc).symm.trans h
          have z := oX16_ipOut_L234 fu (fun b0 b3 b4 b6 b7 b8 M => fX16_ipOut_L200 fu  n b0 b3 b4 b6 b7 b8 M) ih a0 a3 a4 a6 a7 a8 M hB ra0 ia6 h
          exact ⟨hS.tr z.1, z.2⟩
      · have h := (if_neg hc).symm.trans h
        have z := oX16_ipOut_L240 fu   a0 a3 a4 a6 a7 M hB ra0 ia6 h
        exact ⟨hS.tr z.1, z.2⟩
theorem oX16_ipOut_L195 (fu : Nat)   (a0 : Nat) (a3 : Int32) (a4 : Int32) (a6 : Option Nat) (s0 : Int32) (M : Mm) {out : Mm} (hB : Bd RM TM M) (ra0 : RM a0) (ia6 : inR RM a6) (h : fX16_ipOut_L195 fu  a0 a3 a4 a6 s0 M = some out) : Sm RM M out ∧ Bd RM TM out := by
  unfold fX16_ipOut_L195 at h
  have hS : Sm RM M M := Sm.rf
  have z := oX16_ipOut_L200 fu   fu a0 a3 a4 a6 s0 (0 : Int32) M hB ra0 ia6 h
  exact ⟨hS.tr z.1, z.2⟩
theorem oX16_ipOut_L140 (fu : Nat)   (a0 : Nat) (a3 : Int32) (s0 : Int32) (M : Mm) {out : Mm} (hB : Bd RM TM M) (ra0 : RM a0) (h : fX16_ipOut_L140 fu  a0 a3 s0 M = some out) : Sm RM M out ∧ Bd RM TM out := by
  unfold fX16_ipOut_L140 at h
  have hS : Sm RM M M := Sm.rf
  obtain ⟨q1, eq1, h⟩ := bd h
  have rq1 := rc_in hB (show 12 ≤ 16 ∧ 16 ≤ 16 from by decide) eq1
  obtain ⟨v3, M2, eM2, h⟩ := b2d h
  have w := oX16_counting fu q1 s0 M hB rq1 eM2
  have hS := hS.tr w.1
  have iv3 := w.2.2
  have hB := w.2.1
  by_cases hc : v3 = none
  · have h := (if_pos hc).symm.trans h
    obtain ⟨q4, eq4, h⟩ := bd h
    have rq4 := rc_in hB (show 12 ≤ 16 ∧ 16 ≤ 16 from by decide) eq4
    obtain ⟨v6, M5, eM5, h⟩ := b2d h
    have w := oX16_packet fu q4 s0 M2 hB rq4 eM5
    have hS := hS.tr w.1
    have iv6 := w.2.2
    have hB := w.2.1
    by_cases hc : v6 = none
    · have h := (if_pos hc).symm.trans h
      have z := oX16_ipOut_L195 fu   a0 a3 s0 v6 (1 : Int32) M5 hB ra0 iv6 h
      exact ⟨hS.tr z.1, z.2⟩
    · have h := (if_neg hc).symm.trans h
      have z := oX16_ipOut_L195 fu   a0 a3 s0 v6 (0 : Int32) M5 hB ra0 iv6 h
      exact ⟨hS.tr z.1, z.2⟩
  · have h := (if_neg hc).symm.trans h
    obtain ⟨v7, ev7, h⟩ := bd h
    obtain ⟨v8, ev8, h⟩ := bd h
    obtain ⟨q9, eq9, h⟩ := bd h
    have rq9 := rc_in hB (show 12 ≤ 16 ∧ 16 ≤ 16 from by decide) eq9
    obtain ⟨M10, eM10, h⟩ := bd h
    have w := oX16_send fu q9 v7 v8 (2048 : Int32) ((20 : Int32) + a3) M2 hB rq9 eM10
    have hS := hS.tr w.1
    have hB := w.2
    obtain rfl := Option.some.inj h
    exact ⟨hS, hB⟩
theorem oX16_ipOut (fu : Nat)   (a0 : Nat) (a1 : Int32) (a2 : Int32) (a3 : Int32)  (M : Mm) {out : Mm} (hB : Bd RM TM M) (ra0 : RM a0) (h : fX16_ipOut fu  a0 a1 a2 a3 M = some out) : Sm RM M out ∧ Bd RM TM out := by
  unfold fX16_ipOut at h
  have hS : Sm RM M M := Sm.rf
  obtain ⟨v1, ev1, h⟩ := bd h
  obtain ⟨M2, eM2, h⟩ := bd h
  have w := pF_own hB (show 12 ≤ 16 ∧ 16 ≤ 16 from by decide) eM2
  have hS := hS.tr w.1
  have hB := w.2
  obtain ⟨q3, eq3, h⟩ := bd h
  have rq3 := rc_in hB (show 12 ≤ 16 ∧ 16 ≤ 16 from by decide) eq3
  obtain ⟨M4, eM4, h⟩ := bd h
  have w := oX16_put fu q3 (14 : Int32) (2 : Int32) (17664 : Int32) M2 hB rq3 eM4
  have hS := hS.tr w.1
  have hB := w.2
  obtain ⟨q5, eq5, h⟩ := bd h
  have rq5 := rc_in hB (show 12 ≤ 16 ∧ 16 ≤ 16 from by decide) eq5
  obtain ⟨M6, eM6, h⟩ := bd h
  have w := oX16_put fu q5 (16 : Int32) (2 : Int32) ((20 : Int32) + a3) M4 hB rq5 eM6
  have hS := hS.tr w.1
  have hB := w.2
  obtain ⟨v7, ev7, h⟩ := bd h
  obtain ⟨q8, eq8, h⟩ := bd h
  have rq8 := rc_in hB (show 12 ≤ 16 ∧ 16 ≤ 16 from by decide) eq8
  obtain ⟨M9, eM9, h⟩ := bd h
  have w := oX16_put fu q8 (18 : Int32) (2 : Int32) v7 M6 hB rq8 eM9
  have hS := hS.tr w.1
  have hB := w.2
  obtain ⟨q10, eq10, h⟩ := bd h
  have rq10 := rc_in hB (show 12 ≤ 16 ∧ 16 ≤ 16 from by decide) eq10
  obtain ⟨M11, eM11, h⟩ := bd h
  have w := oX16_put fu q10 (20 : Int32) (2 : Int32) (16384 : Int32) M9 hB rq10 eM11
  have hS := hS.tr w.1
  have hB := w.2
  obtain ⟨q12, eq12, h⟩ := bd h
  have rq12 := rc_in hB (show 12 ≤ 16 ∧ 16 ≤ 16 from by decide) eq12
  obtain ⟨M13, eM13, h⟩ := bd h
  have w := oX16_put fu q12 (22 : Int32) (2 : Int32) ((16384 : Int32) ||| a2) M11 hB rq12 eM13
  have hS := hS.tr w.1
  have hB := w.2
  obtain ⟨q14, eq14, h⟩ := bd h
  have rq14 := rc_in hB (show 12 ≤ 16 ∧ 16 ≤ 16 from by decide) eq14
  obtain ⟨M15, eM15, h⟩ := bd h
  have w := oX16_put fu q14 (24 : Int32) (2 : Int32) (0 : Int32) M13 hB rq14 eM15
  have hS := hS.tr w.1
  have hB := w.2
  obtain ⟨v16, ev16, h⟩ := bd h
  obtain ⟨q17, eq17, h⟩ := bd h
  have rq17 := rc_in hB (show 12 ≤ 16 ∧ 16 ≤ 16 from by decide) eq17
  obtain ⟨M18, eM18, h⟩ := bd h
  have w := oX16_put fu q17 (26 : Int32) (4 : Int32) v16 M15 hB rq17 eM18
  have hS := hS.tr w.1
  have hB := w.2
  obtain ⟨q19, eq19, h⟩ := bd h
  have rq19 := rc_in hB (show 12 ≤ 16 ∧ 16 ≤ 16 from by decide) eq19
  obtain ⟨M20, eM20, h⟩ := bd h
  have w := oX16_put fu q19 (30 : Int32) (4 : Int32) a1 M18 hB rq19 eM20
  have hS := hS.tr w.1
  have hB := w.2
  obtain ⟨v21, ev21, h⟩ := bd h
  have iv21 := gR_in hB (show 12 ≤ 16 ∧ 16 ≤ 16 from by decide) ev21
  obtain ⟨v23, M22, eM22, h⟩ := b2d h
  have w := oX16_added fu  v21 (14 : Int32) (20 : Int32) (0 : Int64) M20 hB iv21 eM22
  have hS := hS.tr w.1
  have hB := w.2
  obtain ⟨v25, M24, eM24, h⟩ := b2d h
  have w := oX16_sixteen fu  v23 M22 hB  eM24
  have hS := hS.tr w.1
  have hB := w.2
  obtain ⟨q26, eq26, h⟩ := bd h
  have rq26 := rc_in hB (show 12 ≤ 16 ∧ 16 ≤ 16 from by decide) eq26
  obtain ⟨M27, eM27, h⟩ := bd h
  have w := oX16_put fu q26 (24 : Int32) (2 : Int32) v25 M24 hB rq26 eM27
  have hS := hS.tr w.1
  have hB := w.2
  obtain ⟨q28, eq28, h⟩ := bd h
  have rq28 := rc_in hB (show 12 ≤ 16 ∧ 16 ≤ 16 from by decide) eq28
  obtain ⟨v30, M29, eM29, h⟩ := b2d h
  have w := oX16_net fu q28 a1 M27 hB rq28 eM29
  have hS := hS.tr w.1
  have hB := w.2
  obtain ⟨v31, ev31, h⟩ := bd h
  obtain ⟨q32, eq32, h⟩ := bd h
  have rq32 := rc_in hB (show 12 ≤ 16 ∧ 16 ≤ 16 from by decide) eq32
  obtain ⟨v34, M33, eM33, h⟩ := b2d h
  have w := oX16_net fu q32 v31 M29 hB rq32 eM33
  have hS := hS.tr w.1
  have hB := w.2
  by_cases hc : v30 = v34
  · have h := (if_pos hc).symm.trans h
    have z := oX16_ipOut_L140 fu   a0 a3 a1 M33 hB ra0 h
    exact ⟨hS.tr z.1, z.2⟩
  · have h := (if_neg hc).symm.trans h
    obtain ⟨v35, ev35, h⟩ := bd h
    have z := oX16_ipOut_L140 fu   a0 a3 v35 M33 hB ra0 h
    exact ⟨hS.tr z.1, z.2⟩
theorem oX16_askAgain (fu : Nat)   (a0 : Nat) (a1 : Option Nat)  (M : Mm) {out : Mm} (hB : Bd RM TM M) (ra0 : RM a0) (ia1 : inR RM a1) (h : fX16_askAgain fu  a0 a1 M = some out) : Sm RM M out ∧ Bd RM TM out := by
  unfold fX16_askAgain at h
  have hS : Sm RM M M := Sm.rf
  obtain ⟨v1, ev1, h⟩ := bd h
  by_cases hc : v1 = (3 : Int32)
  · have h := (if_pos hc).symm.trans h
    obtain ⟨M7, eM7, h⟩ := bd h
    have w := pZ_own hB (show 12 ≤ 15 ∧ 15 ≤ 16 from by decide) eM7
    have hS := hS.tr w.1
    have hB := w.2
    obtain rfl := Option.some.inj h
    exact ⟨hS, hB⟩
  · have h := (if_neg hc).symm.trans h
    obtain ⟨v2, ev2, h⟩ := bd h
    obtain ⟨M3, eM3, h⟩ := bd h
    have w := pF_own hB (show 12 ≤ 15 ∧ 15 ≤ 16 from by decide) eM3
    have hS := hS.tr w.1
    have hB := w.2
    obtain ⟨v4, ev4, h⟩ := bd h
    obtain ⟨q5, eq5, h⟩ := bd h
    have rq5 := rc_in hB (show 12 ≤ 16 ∧ 16 ≤ 16 from by decide) eq5
    obtain ⟨M6, eM6, h⟩ := bd h
    have w := oX16_ask fu q5 v4 M3 hB rq5 eM6
    have hS := hS.tr w.1
    have hB := w.2
    obtain rfl := Option.some.inj h
    exact ⟨hS, hB⟩
theorem oX16_echo_L52 (fu : Nat) {out : Mm}   : ∀ (n : Nat) (a0 : Nat) (a1 : Int32) (a2 : Int32)  (M : Mm), Bd RM TM M → RM a0 → fX16_echo_L52 fu  n a0 a1 a2 M = some out → Sm RM M out ∧ Bd RM TM out := by
  intro n
  induction n with
  | zero =>
    intro a0 a1 a2 M hB ra0 h
    have h : (none : Option (Mm)) = some out := h
    cases h
  | succ n ih =>
    intro a0 a1 a2 M hB ra0 h
    rw [fX16_echo_L52] at h
    have hS : Sm RM M M := Sm.rf
    by_cases hc : a1 ≤ a2
    · have h := (if_pos hc).symm.trans h
      obtain ⟨q1, eq1, h⟩ := bd h
      have rq1 := rc_in hB (show 12 ≤ 16 ∧ 16 ≤ 16 from by decide) eq1
      obtain ⟨M2, eM2, h⟩ := bd h
      have w := oX16_put fu q1 (34 : Int32) (1 : Int32) (0 : Int32) M hB rq1 eM2
      have hS := hS.tr w.1
      have hB := w.2
      obtain ⟨q3, eq3, h⟩ := bd h
      have rq3 := rc_in hB (show 12 ≤ 16 ∧ 16 ≤ 16 from by decide) eq3
      obtain ⟨M4, eM4, h⟩ := bd h
      have w := oX16_put fu q3 (36 : Int32) (2 : Int32) (0 : Int32) M2 hB rq3 eM4
      have hS := hS.tr w.1
      have hB := w.2
      obtain ⟨v5, ev5, h⟩ := bd h
      have iv5 := gR_in hB (show 12 ≤ 16 ∧ 16 ≤ 16 from by decide) ev5
      obtain ⟨v7, M6, eM6, h⟩ := b2d h
      have w := oX16_added fu  v5 (34 : Int32) a1 (0 : Int64) M4 hB iv5 eM6
      have hS := hS.tr w.1
      have hB := w.2
      obtain ⟨v9, M8, eM8, h⟩ := b2d h
      have w := oX16_sixteen fu  v7 M6 hB  eM8
      have hS := hS.tr w.1
      have hB := w.2
      obtain ⟨q10, eq10, h⟩ := bd h
      have rq10 := rc_in hB (show 12 ≤ 16 ∧ 16 ≤ 16 from by decide) eq10
      obtain ⟨M11, eM11, h⟩ := bd h
      have w := oX16_put fu q10 (36 : Int32) (2 : Int32) v9 M8 hB rq10 eM11
      have hS := hS.tr w.1
      have hB := w.2
      obtain ⟨v12, ev12, h⟩ := bd h
      obtain ⟨q13, eq13, h⟩ := bd h
      have rq13 := rc_in hB (show 12 ≤ 16 ∧ 16 ≤ 16 from by decide) eq13
      obtain ⟨M14, eM14, h⟩ := bd h
      have w := oX16_ipOut fu q13 v12 (1 : Int32) a1 M11 hB rq13 eM14
      have hS := hS.tr w.1
      have hB := w.2
      obtain rfl := Option.some.inj h
      exact ⟨hS, hB⟩
    · have h := (if_neg hc).symm.trans h
      obtain ⟨v15, ev15, h⟩ := bd h
      have iv15 := gR_in hB (show 12 ≤ 16 ∧ 16 ≤ 16 from by decide) ev15
      obtain ⟨v16, ev16, h⟩ := bd h
      have iv16 := gR_in hB (show 12 ≤ 16 ∧ 16 ≤ 16 from by decide) ev16
      obtain ⟨v17, ev17, h⟩ := bd h
      obtain ⟨M18, eM18, h⟩ := bd h
      have w := pA_ownB hB iv15 eM18
      have hS := hS.tr w.1
      have hB := w.2
      have z := ih a0 a1 (a2 + (1 : Int32)) M18 hB ra0 h
      exact ⟨hS.tr z.1, z.2⟩
theorem oX16_echo (fu : Nat)   (a0 : Nat) (a1 : Int32)  (M : Mm) {out : Mm} (hB : Bd RM TM M) (ra0 : RM a0) (h : fX16_echo fu  a0 a1 M = some out) : Sm RM M out ∧ Bd RM TM out := by
  unfold fX16_echo at h
  have hS : Sm RM M M := Sm.rf
  by_cases hc : a1 < (8 : Int32)
  · have h := (if_pos hc).symm.trans h
    obtain rfl := Option.some.inj h
    exact ⟨hS, hB⟩
  · have h := (if_neg hc).symm.trans h
    by_cases hc : (1480 : Int32) < a1
    · have h := (if_pos hc).symm.trans h
      obtain rfl := Option.some.inj h
      exact ⟨hS, hB⟩
    · have h := (if_neg hc).symm.trans h
      obtain ⟨v1, ev1, h⟩ := bd h
      have iv1 := gR_in hB (show 12 ≤ 16 ∧ 16 ≤ 16 from by decide) ev1
      obtain ⟨v3, M2, eM2, h⟩ := b2d h
      have w := oX16_added fu  v1 (0 : Int32) a1 (0 : Int64) M hB iv1 eM2
      have hS := hS.tr w.1
      have hB := w.2
      obtain ⟨v5, M4, eM4, h⟩ := b2d h
      have w := oX16_sixteen fu  v3 M2 hB  eM4
      have hS := hS.tr w.1
      have hB := w.2
      by_cases hc : v5 = 0
      · have h := (if_pos hc).symm.trans h
        obtain ⟨v6, ev6, h⟩ := bd h
        have iv6 := gR_in hB (show 12 ≤ 16 ∧ 16 ≤ 16 from by decide) ev6
        obtain ⟨v7, ev7, h⟩ := bd h
        by_cases hc : v7 = (8 : Int32)
        · have h := (if_pos hc).symm.trans h
          obtain ⟨v8, ev8, h⟩ := bd h
          have iv8 := gR_in hB (show 12 ≤ 16 ∧ 16 ≤ 16 from by decide) ev8
          obtain ⟨v9, ev9, h⟩ := bd h
          by_cases hc : v9 = 0
          · have h := (if_pos hc).symm.trans h
            have z := oX16_echo_L52 fu   fu a0 a1 (0 : Int32) M4 hB ra0 h
            exact ⟨hS.tr z.1, z.2⟩
          · have h := (if_neg hc).symm.trans h
            obtain rfl := Option.some.inj h
            exact ⟨hS, hB⟩
        · have h := (if_neg hc).symm.trans h
          obtain rfl := Option.some.inj h
          exact ⟨hS, hB⟩
      · have h := (if_neg hc).symm.trans h
        obtain rfl := Option.some.inj h
        exact ⟨hS, hB⟩
theorem oX16_pseudo (fu : Nat)   (a0 : Nat) (a1 : Int32) (a2 : Int32) (a3 : Int32)  (M : Mm) {out : Int64 × Mm} (hB : Bd RM TM M) (ra0 : RM a0) (h : fX16_pseudo fu  a0 a1 a2 a3 M = some out) : Sm RM M out.2 ∧ Bd RM TM out.2 := by
  unfold fX16_pseudo at h
  have hS : Sm RM M M := Sm.rf
  obtain rfl := Option.some.inj h
  exact ⟨hS, hB⟩
theorem oX16_half (fu : Nat)   (a0 : Nat) (a1 : Int32)  (M : Mm) {out : Int32 × Mm} (hB : Bd RM TM M) (ra0 : RM a0) (h : fX16_half fu  a0 a1 M = some out) : Sm RM M out.2 ∧ Bd RM TM out.2 := by
  unfold fX16_half at h
  have hS : Sm RM M M := Sm.rf
  obtain ⟨v1, ev1, h⟩ := bd h
  have iv1 := gR_in hB (show 12 ≤ 16 ∧ 16 ≤ 16 from by decide) ev1
  obtain ⟨v2, ev2, h⟩ := bd h
  obtain ⟨v3, ev3, h⟩ := bd h
  have iv3 := gR_in hB (show 12 ≤ 16 ∧ 16 ≤ 16 from by decide) ev3
  obtain ⟨v4, ev4, h⟩ := bd h
  obtain rfl := Option.some.inj h
  exact ⟨hS, hB⟩
theorem oX16_wholeWord (fu : Nat)   (a0 : Nat) (a1 : Int32)  (M : Mm) {out : Int32 × Mm} (hB : Bd RM TM M) (ra0 : RM a0) (h : fX16_wholeWord fu  a0 a1 M = some out) : Sm RM M out.2 ∧ Bd RM TM out.2 := by
  unfold fX16_wholeWord at h
  have hS : Sm RM M M := Sm.rf
  obtain ⟨q1, eq1, h⟩ := bd h
  have rq1 := rc_in hB (show 12 ≤ 16 ∧ 16 ≤ 16 from by decide) eq1
  obtain ⟨v3, M2, eM2, h⟩ := b2d h
  have w := oX16_half fu q1 a1 M hB rq1 eM2
  have hS := hS.tr w.1
  have hB := w.2
  obtain ⟨q4, eq4, h⟩ := bd h
  have rq4 := rc_in hB (show 12 ≤ 16 ∧ 16 ≤ 16 from by decide) eq4
  obtain ⟨v6, M5, eM5, h⟩ := b2d h
  have w := oX16_half fu q4 (a1 + (2 : Int32)) M2 hB rq4 eM5
  have hS := hS.tr w.1
  have hB := w.2
  obtain rfl := Option.some.inj h
  exact ⟨hS, hB⟩
theorem oX16_is (fu : Nat)   (a0 : Nat) (a1 : Int32)  (M : Mm) {out : Int32 × Mm} (hB : Bd RM TM M) (ra0 : RM a0) (h : fX16_is fu  a0 a1 M = some out) : Sm RM M out.2 ∧ Bd RM TM out.2 := by
  unfold fX16_is at h
  have hS : Sm RM M M := Sm.rf
  obtain ⟨v1, ev1, h⟩ := bd h
  by_cases hc : (v1 &&& a1) = 0
  · have h := (if_pos hc).symm.trans h
    obtain ⟨hz, rfl⟩ := rN_some h
    exact ⟨hS, hB⟩
  · have h := (if_neg hc).symm.trans h
    obtain ⟨hz, rfl⟩ := rN_some h
    exact ⟨hS, hB⟩
theorem oX16_segmentOut_L91 (fu : Nat)   (a0 : Nat) (a1 : Int32) (a8 : Int32) (a9 : Int32)  (M : Mm) {out : Mm} (hB : Bd RM TM M) (ra0 : RM a0) (h : fX16_segmentOut_L91 fu  a0 a1 a8 a9 M = some out) : Sm RM M out ∧ Bd RM TM out := by
  unfold fX16_segmentOut_L91 at h
  have hS : Sm RM M M := Sm.rf
  obtain ⟨v1, ev1, h⟩ := bd h
  have iv1 := gR_in hB (show 12 ≤ 16 ∧ 16 ≤ 16 from by decide) ev1
  obtain ⟨v2, ev2, h⟩ := bd h
  obtain ⟨q3, eq3, h⟩ := bd h
  have rq3 := rc_in hB (show 12 ≤ 16 ∧ 16 ≤ 16 from by decide) eq3
  obtain ⟨v5, M4, eM4, h⟩ := b2d h
  have w := oX16_pseudo fu q3 v2 a1 (((20 : Int32) + a8) + a9) M hB rq3 eM4
  have hS := hS.tr w.1
  have hB := w.2
  obtain ⟨v7, M6, eM6, h⟩ := b2d h
  have w := oX16_added fu  v1 (34 : Int32) (((20 : Int32) + a8) + a9) v5 M4 hB iv1 eM6
  have hS := hS.tr w.1
  have hB := w.2
  obtain ⟨v9, M8, eM8, h⟩ := b2d h
  have w := oX16_sixteen fu  v7 M6 hB  eM8
  have hS := hS.tr w.1
  have hB := w.2
  obtain ⟨q10, eq10, h⟩ := bd h
  have rq10 := rc_in hB (show 12 ≤ 16 ∧ 16 ≤ 16 from by decide) eq10
  obtain ⟨M11, eM11, h⟩ := bd h
  have w := oX16_put fu q10 (50 : Int32) (2 : Int32) v9 M8 hB rq10 eM11
  have hS := hS.tr w.1
  have hB := w.2
  obtain ⟨q12, eq12, h⟩ := bd h
  have rq12 := rc_in hB (show 12 ≤ 16 ∧ 16 ≤ 16 from by decide) eq12
  obtain ⟨M13, eM13, h⟩ := bd h
  have w := oX16_ipOut fu q12 a1 (6 : Int32) (((20 : Int32) + a8) + a9) M11 hB rq12 eM13
  have hS := hS.tr w.1
  have hB := w.2
  obtain rfl := Option.some.inj h
  exact ⟨hS, hB⟩
theorem oX16_segmentOut (fu : Nat)   (a0 : Nat) (a1 : Int32) (a2 : Int32) (a3 : Int32) (a4 : Int32) (a5 : Int32) (a6 : Int32) (a7 : Int32) (a8 : Int32) (a9 : Int32)  (M : Mm) {out : Mm} (hB : Bd RM TM M) (ra0 : RM a0) (h : fX16_segmentOut fu  a0 a1 a2 a3 a4 a5 a6 a7 a8 a9 M = some out) : Sm RM M out ∧ Bd RM TM out := by
  unfold fX16_segmentOut at h
  have hS : Sm RM M M := Sm.rf
  obtain ⟨q1, eq1, h⟩ := bd h
  have rq1 := rc_in hB (show 12 ≤ 16 ∧ 16 ≤ 16 from by decide) eq1
  obtain ⟨M2, eM2, h⟩ := bd h
  have w := oX16_put fu q1 (34 : Int32) (2 : Int32) a2 M hB rq1 eM2
  have hS := hS.tr w.1
  have hB := w.2
  obtain ⟨q3, eq3, h⟩ := bd h
  have rq3 := rc_in hB (show 12 ≤ 16 ∧ 16 ≤ 16 from by decide) eq3
  obtain ⟨M4, eM4, h⟩ := bd h
  have w := oX16_put fu q3 (36 : Int32) (2 : Int32) a3 M2 hB rq3 eM4
  have hS := hS.tr w.1
  have hB := w.2
  obtain ⟨q5, eq5, h⟩ := bd h
  have rq5 := rc_in hB (show 12 ≤ 16 ∧ 16 ≤ 16 from by decide) eq5
  obtain ⟨M6, eM6, h⟩ := bd h
  have w := oX16_put fu q5 (38 : Int32) (4 : Int32) a4 M4 hB rq5 eM6
  have hS := hS.tr w.1
  have hB := w.2
  obtain ⟨q7, eq7, h⟩ := bd h
  have rq7 := rc_in hB (show 12 ≤ 16 ∧ 16 ≤ 16 from by decide) eq7
  obtain ⟨M8, eM8, h⟩ := bd h
  have w := oX16_put fu q7 (42 : Int32) (4 : Int32) a5 M6 hB rq7 eM8
  have hS := hS.tr w.1
  have hB := w.2
  obtain ⟨q9, eq9, h⟩ := bd h
  have rq9 := rc_in hB (show 12 ≤ 16 ∧ 16 ≤ 16 from by decide) eq9
  obtain ⟨M10, eM10, h⟩ := bd h
  have w := oX16_put fu q9 (46 : Int32) (1 : Int32) ((((20 : Int32) + a8) / (4 : Int32)) <<< ((4 : Int32) &&& 31)) M8 hB rq9 eM10
  have hS := hS.tr w.1
  have hB := w.2
  obtain ⟨q11, eq11, h⟩ := bd h
  have rq11 := rc_in hB (show 12 ≤ 16 ∧ 16 ≤ 16 from by decide) eq11
  obtain ⟨M12, eM12, h⟩ := bd h
  have w := oX16_put fu q11 (47 : Int32) (1 : Int32) a6 M10 hB rq11 eM12
  have hS := hS.tr w.1
  have hB := w.2
  obtain ⟨q13, eq13, h⟩ := bd h
  have rq13 := rc_in hB (show 12 ≤ 16 ∧ 16 ≤ 16 from by decide) eq13
  obtain ⟨M14, eM14, h⟩ := bd h
  have w := oX16_put fu q13 (48 : Int32) (2 : Int32) a7 M12 hB rq13 eM14
  have hS := hS.tr w.1
  have hB := w.2
  obtain ⟨q15, eq15, h⟩ := bd h
  have rq15 := rc_in hB (show 12 ≤ 16 ∧ 16 ≤ 16 from by decide) eq15
  obtain ⟨M16, eM16, h⟩ := bd h
  have w := oX16_put fu q15 (50 : Int32) (4 : Int32) (0 : Int32) M14 hB rq15 eM16
  have hS := hS.tr w.1
  have hB := w.2
  by_cases hc : a8 ≤ 0
  · have h := (if_pos hc).symm.trans h
    have z := oX16_segmentOut_L91 fu   a0 a1 a8 a9 M16 hB ra0 h
    exact ⟨hS.tr z.1, z.2⟩
  · have h := (if_neg hc).symm.trans h
    obtain ⟨q17, eq17, h⟩ := bd h
    have rq17 := rc_in hB (show 12 ≤ 16 ∧ 16 ≤ 16 from by decide) eq17
    obtain ⟨M18, eM18, h⟩ := bd h
    have w := oX16_put fu q17 (54 : Int32) (4 : Int32) (33818036 : Int32) M16 hB rq17 eM18
    have hS := hS.tr w.1
    have hB := w.2
    have z := oX16_segmentOut_L91 fu   a0 a1 a8 a9 M18 hB ra0 h
    exact ⟨hS.tr z.1, z.2⟩
theorem oX16_extent_L17 (fu : Nat)   (a0 : Nat) (s0 : Int32) (s1 : Int32) (M : Mm) {out : Int32 × Mm} (hB : Bd RM TM M) (ra0 : RM a0) (h : fX16_extent_L17 fu  a0 s0 s1 M = some out) : Sm RM M out.2 ∧ Bd RM TM out.2 := by
  unfold fX16_extent_L17 at h
  have hS : Sm RM M M := Sm.rf
  obtain ⟨q1, eq1, h⟩ := bd h
  have rq1 := rc_in hB (show 12 ≤ 16 ∧ 16 ≤ 16 from by decide) eq1
  obtain ⟨v3, M2, eM2, h⟩ := b2d h
  have w := oX16_is fu q1 (1 : Int32) M hB rq1 eM2
  have hS := hS.tr w.1
  have hB := w.2
  by_cases hc : v3 = 0
  · have h := (if_pos hc).symm.trans h
    obtain rfl := Option.some.inj h
    exact ⟨hS, hB⟩
  · have h := (if_neg hc).symm.trans h
    obtain rfl := Option.some.inj h
    exact ⟨hS, hB⟩
theorem oX16_extent (fu : Nat)   (a0 : Nat)  (M : Mm) {out : Int32 × Mm} (hB : Bd RM TM M) (ra0 : RM a0) (h : fX16_extent fu  a0 M = some out) : Sm RM M out.2 ∧ Bd RM TM out.2 := by
  unfold fX16_extent at h
  have hS : Sm RM M M := Sm.rf
  obtain ⟨v1, ev1, h⟩ := bd h
  obtain ⟨q2, eq2, h⟩ := bd h
  have rq2 := rc_in hB (show 12 ≤ 16 ∧ 16 ≤ 16 from by decide) eq2
  obtain ⟨v4, M3, eM3, h⟩ := b2d h
  have w := oX16_is fu q2 (2 : Int32) M hB rq2 eM3
  have hS := hS.tr w.1
  have hB := w.2
  by_cases hc : v4 = 0
  · have h := (if_pos hc).symm.trans h
    have z := oX16_extent_L17 fu   a0 v1 (0 : Int32) M3 hB ra0 h
    exact ⟨hS.tr z.1, z.2⟩
  · have h := (if_neg hc).symm.trans h
    have z := oX16_extent_L17 fu   a0 v1 (1 : Int32) M3 hB ra0 h
    exact ⟨hS.tr z.1, z.2⟩
theorem oX16_reset (fu : Nat)   (a0 : Nat)  (M : Mm) {out : Mm} (hB : Bd RM TM M) (ra0 : RM a0) (h : fX16_reset fu  a0 M = some out) : Sm RM M out ∧ Bd RM TM out := by
  unfold fX16_reset at h
  have hS : Sm RM M M := Sm.rf
  obtain ⟨v1, ev1, h⟩ := bd h
  have iv1 := gR_in hB (show 12 ≤ 16 ∧ 16 ≤ 16 from by decide) ev1
  obtain ⟨v2, ev2, h⟩ := bd h
  obtain ⟨M3, eM3, h⟩ := bd h
  have w := pA_own hB iv1 (by decide) eM3
  have hS := hS.tr w.1
  have hB := w.2
  obtain ⟨q4, eq4, h⟩ := bd h
  have rq4 := rc_in hB (show 12 ≤ 16 ∧ 16 ≤ 16 from by decide) eq4
  obtain ⟨v6, M5, eM5, h⟩ := b2d h
  have w := oX16_is fu q4 (16 : Int32) M3 hB rq4 eM5
  have hS := hS.tr w.1
  have hB := w.2
  by_cases hc : v6 = 0
  · have h := (if_pos hc).symm.trans h
    obtain ⟨v7, ev7, h⟩ := bd h
    obtain ⟨v8, ev8, h⟩ := bd h
    obtain ⟨v9, ev9, h⟩ := bd h
    obtain ⟨v10, ev10, h⟩ := bd h
    obtain ⟨q11, eq11, h⟩ := bd h
    have rq11 := rc_in hB (show 12 ≤ 16 ∧ 16 ≤ 16 from by decide) eq11
    obtain ⟨v13, M12, eM12, h⟩ := b2d h
    have w := oX16_extent fu q11  M5 hB rq11 eM12
    have hS := hS.tr w.1
    have hB := w.2
    obtain ⟨q14, eq14, h⟩ := bd h
    have rq14 := rc_in hB (show 12 ≤ 16 ∧ 16 ≤ 16 from by decide) eq14
    obtain ⟨M15, eM15, h⟩ := bd h
    have w := oX16_segmentOut fu q14 v7 v8 v9 (0 : Int32) (v10 + v13) (20 : Int32) (0 : Int32) (0 : Int32) (0 : Int32) M12 hB rq14 eM15
    have hS := hS.tr w.1
    have hB := w.2
    obtain rfl := Option.some.inj h
    exact ⟨hS, hB⟩
  · have h := (if_neg hc).symm.trans h
    obtain ⟨v16, ev16, h⟩ := bd h
    obtain ⟨v17, ev17, h⟩ := bd h
    obtain ⟨v18, ev18, h⟩ := bd h
    obtain ⟨v19, ev19, h⟩ := bd h
    obtain ⟨q20, eq20, h⟩ := bd h
    have rq20 := rc_in hB (show 12 ≤ 16 ∧ 16 ≤ 16 from by decide) eq20
    obtain ⟨M21, eM21, h⟩ := bd h
    have w := oX16_segmentOut fu q20 v16 v17 v18 v19 (0 : Int32) (4 : Int32) (0 : Int32) (0 : Int32) (0 : Int32) M5 hB rq20 eM21
    have hS := hS.tr w.1
    have hB := w.2
    obtain rfl := Option.some.inj h
    exact ⟨hS, hB⟩
theorem oX16_optionMss_L116 (fu : Nat) {out : Int32 × Mm} (k3 : Nat → Int32 → Mm → Option (Int32 × Mm)) (hk3 : ∀ (b0 : Nat) (b1 : Int32)  (M : Mm), Bd RM TM M → RM b0 → k3 b0 b1 M = some out → Sm RM M out.2 ∧ Bd RM TM out.2) (a0 : Nat) (a1 : Int32)  (M : Mm) (hB : Bd RM TM M) (ra0 : RM a0) (h : fX16_optionMss_L116 fu k3 a0 a1 M = some out) : Sm RM M out.2 ∧ Bd RM TM out.2 := by
  unfold fX16_optionMss_L116 at h
  have hS : Sm RM M M := Sm.rf
  have z := hk3 a0 a1 M hB ra0 h
  exact ⟨hS.tr z.1, z.2⟩
theorem oX16_optionMss_L112 (fu : Nat) {out : Int32 × Mm} (k3 : Nat → Int32 → Mm → Option (Int32 × Mm)) (hk3 : ∀ (b0 : Nat) (b1 : Int32)  (M : Mm), Bd RM TM M → RM b0 → k3 b0 b1 M = some out → Sm RM M out.2 ∧ Bd RM TM out.2) (a0 : Nat) (a1 : Int32) (a3 : Int32)  (M : Mm) (hB : Bd RM TM M) (ra0 : RM a0) (h : fX16_optionMss_L112 fu k3 a0 a1 a3 M = some out) : Sm RM M out.2 ∧ Bd RM TM out.2 := by
  unfold fX16_optionMss_L112 at h
  have hS : Sm RM M M := Sm.rf
  have z := oX16_optionMss_L116 fu k3 hk3 a0 (a1 + a3) M hB ra0 h
  exact ⟨hS.tr z.1, z.2⟩
theorem oX16_optionMss_L3 (fu : Nat) {out : Int32 × Mm}   : ∀ (n : Nat) (a0 : Nat) (a1 : Int32)  (M : Mm), Bd RM TM M → RM a0 → fX16_optionMss_L3 fu  n a0 a1 M = some out → Sm RM M out.2 ∧ Bd RM TM out.2 := by
  intro n
  induction n with
  | zero =>
    intro a0 a1 M hB ra0 h
    have h : (none : Option (Int32 × Mm)) = some out := h
    cases h
  | succ n ih =>
    intro a0 a1 M hB ra0 h
    rw [fX16_optionMss_L3] at h
    have hS : Sm RM M M := Sm.rf
    obtain ⟨v1, ev1, h⟩ := bd h
    by_cases hc : v1 ≤ a1
    · have h := (if_pos hc).symm.trans h
      obtain rfl := Option.some.inj h
      exact ⟨hS, hB⟩
    · have h := (if_neg hc).symm.trans h
      obtain ⟨v2, ev2, h⟩ := bd h
      have iv2 := gR_in hB (show 12 ≤ 16 ∧ 16 ≤ 16 from by decide) ev2
      obtain ⟨v3, ev3, h⟩ := bd h
      by_cases hc : v3 = 0
      · have h := (if_pos hc).symm.trans h
        obtain rfl := Option.some.inj h
        exact ⟨hS, hB⟩
      · have h := (if_neg hc).symm.trans h
        by_cases hc : v3 = (1 : Int32)
        · have h := (if_pos hc).symm.trans h
          have z := oX16_optionMss_L116 fu (fun b0 b1 M => fX16_optionMss_L3 fu  n b0 b1 M) ih a0 (a1 + (1 : Int32)) M hB ra0 h
          exact ⟨hS.tr z.1, z.2⟩
        · have h := (if_neg hc).symm.trans h
          obtain ⟨v4, ev4, h⟩ := bd h
          by_cases hc : (a1 + (1 : Int32)) < v4
          · have h := (if_pos hc).symm.trans h
            obtain ⟨v5, ev5, h⟩ := bd h
            have iv5 := gR_in hB (show 12 ≤ 16 ∧ 16 ≤ 16 from by decide) ev5
            obtain ⟨v6, ev6, h⟩ := bd h
            by_cases hc : (v6 &&& (255 : Int32)) < (2 : Int32)
            · have h := (if_pos hc).symm.trans h
              obtain rfl := Option.some.inj h
              exact ⟨hS, hB⟩
            · have h := (if_neg hc).symm.trans h
              obtain ⟨v7, ev7, h⟩ := bd h
              by_cases hc : (a1 + (v6 &&& (255 : Int32))) ≤ v7
              · have h := (if_pos hc).symm.trans h
                by_cases hc : v3 = (2 : Int32)
                · have h := (if_pos hc).symm.trans h
                  by_cases hc : (v6 &&& (255 : Int32)) = (4 : Int32)
                  · have h := (if_pos hc).symm.trans h
                    obtain ⟨q8, eq8, h⟩ := bd h
                    have rq8 := rc_in hB (show 12 ≤ 16 ∧ 16 ≤ 16 from by decide) eq8
                    obtain ⟨v10, M9, eM9, h⟩ := b2d h
                    have w := oX16_half fu q8 (a1 + (2 : Int32)) M hB rq8 eM9
                    have hS := hS.tr w.1
                    have hB := w.2
                    obtain rfl := Option.some.inj h
                    exact ⟨hS, hB⟩
                  · have h := (if_neg hc).symm.trans h
                    have z := oX16_optionMss_L112 fu (fun b0 b1 M => fX16_optionMss_L3 fu  n b0 b1 M) ih a0 a1 (v6 &&& (255 : Int32)) M hB ra0 h
                    exact ⟨hS.tr z.1, z.2⟩
                · have h := (if_neg hc).symm.trans h
                  have z := oX16_optionMss_L112 fu (fun b0 b1 M => fX16_optionMss_L3 fu  n b0 b1 M) ih a0 a1 (v6 &&& (255 : Int32)) M hB ra0 h
                  exact ⟨hS.tr z.1, z.2⟩
              · have h := (if_neg hc).symm.trans h
                obtain rfl := Option.some.inj h
                exact ⟨hS, hB⟩
          · have h := (if_neg hc).symm.trans h
            obtain rfl := Option.some.inj h
            exact ⟨hS, hB⟩
theorem oX16_optionMss (fu : Nat)   (a0 : Nat)  (M : Mm) {out : Int32 × Mm} (hB : Bd RM TM M) (ra0 : RM a0) (h : fX16_optionMss fu  a0 M = some out) : Sm RM M out.2 ∧ Bd RM TM out.2 := by
  unfold fX16_optionMss at h
  have hS : Sm RM M M := Sm.rf
  have z := oX16_optionMss_L3 fu   fu a0 (20 : Int32) M hB ra0 h
  exact ⟨hS.tr z.1, z.2⟩
theorem oX16_pays (fu : Nat)   (a0 : Nat) (a1 : Option Nat)  (M : Mm) {out : Mm} (hB : Bd RM TM M) (ra0 : RM a0) (ia1 : inR RM a1) (h : fX16_pays fu  a0 a1 M = some out) : Sm RM M out ∧ Bd RM TM out := by
  unfold fX16_pays at h
  have hS : Sm RM M M := Sm.rf
  obtain ⟨M1, eM1, h⟩ := bd h
  have w := pZ_own hB (show 12 ≤ 12 ∧ 12 ≤ 16 from by decide) eM1
  have hS := hS.tr w.1
  have hB := w.2
  obtain ⟨q2, eq2, h⟩ := bd h
  have rq2 := rc_in hB (show 12 ≤ 12 ∧ 12 ≤ 16 from by decide) eq2
  obtain ⟨v4, M3, eM3, h⟩ := b2d h
  have w := oX12_open fu q2  M1 hB rq2 eM3
  have hS := hS.tr w.1
  have hB := w.2
  obtain ⟨M5, eM5, h⟩ := bd h
  have w := pF_own hB (show 12 ≤ 12 ∧ 12 ≤ 16 from by decide) eM5
  have hS := hS.tr w.1
  have hB := w.2
  obtain rfl := Option.some.inj h
  exact ⟨hS, hB⟩
theorem oX16_before (fu : Nat)   (a0 : Int32) (a1 : Int32)  (M : Mm) {out : Int32 × Mm} (hB : Bd RM TM M)  (h : fX16_before fu  a0 a1 M = some out) : Sm RM M out.2 ∧ Bd RM TM out.2 := by
  unfold fX16_before at h
  have hS : Sm RM M M := Sm.rf
  by_cases hc : 0 ≤ (a0 - a1)
  · have h := (if_pos hc).symm.trans h
    obtain ⟨hz, rfl⟩ := rN_some h
    exact ⟨hS, hB⟩
  · have h := (if_neg hc).symm.trans h
    obtain ⟨hz, rfl⟩ := rN_some h
    exact ⟨hS, hB⟩
theorem oX16_timerSet (fu : Nat)   (a0 : Nat) (a1 : Option Nat)  (M : Mm) {out : Mm} (hB : Bd RM TM M) (ra0 : RM a0) (ia1 : inR RM a1) (h : fX16_timerSet fu  a0 a1 M = some out) : Sm RM M out ∧ Bd RM TM out := by
  unfold fX16_timerSet at h
  have hS : Sm RM M M := Sm.rf
  obtain ⟨M1, eM1, h⟩ := bd h
  have w := pZ_own hB (show 12 ≤ 12 ∧ 12 ≤ 16 from by decide) eM1
  have hS := hS.tr w.1
  have hB := w.2
  obtain ⟨v2, ev2, h⟩ := bd h
  obtain ⟨v3, ev3, h⟩ := bd h
  obtain ⟨M4, eM4, h⟩ := bd h
  have w := pF_own hB (show 12 ≤ 12 ∧ 12 ≤ 16 from by decide) eM4
  have hS := hS.tr w.1
  have hB := w.2
  obtain rfl := Option.some.inj h
  exact ⟨hS, hB⟩
theorem oX16_noted_L54 (fu : Nat)   (a0 : Nat) (a1 : Option Nat)  (M : Mm) {out : Mm} (hB : Bd RM TM M) (ra0 : RM a0) (ia1 : inR RM a1) (h : fX16_noted_L54 fu  a0 a1 M = some out) : Sm RM M out ∧ Bd RM TM out := by
  unfold fX16_noted_L54 at h
  have hS : Sm RM M M := Sm.rf
  obtain ⟨v1, ev1, h⟩ := bd h
  by_cases hc : v1 = 0
  · have h := (if_pos hc).symm.trans h
    obtain ⟨q2, eq2, h⟩ := bd h
    have rq2 := rc_in hB (show 12 ≤ 16 ∧ 16 ≤ 16 from by decide) eq2
    obtain ⟨M3, eM3, h⟩ := bd h
    have w := oX16_timerSet fu q2 a1 M hB rq2 ia1 eM3
    have hS := hS.tr w.1
    have hB := w.2
    obtain rfl := Option.some.inj h
    exact ⟨hS, hB⟩
  · have h := (if_neg hc).symm.trans h
    obtain rfl := Option.some.inj h
    exact ⟨hS, hB⟩
theorem oX16_noted (fu : Nat)   (a0 : Nat) (a1 : Option Nat) (a2 : Int32)  (M : Mm) {out : Mm} (hB : Bd RM TM M) (ra0 : RM a0) (ia1 : inR RM a1) (h : fX16_noted fu  a0 a1 a2 M = some out) : Sm RM M out ∧ Bd RM TM out := by
  unfold fX16_noted at h
  have hS : Sm RM M M := Sm.rf
  obtain ⟨v1, ev1, h⟩ := bd h
  obtain ⟨v3, M2, eM2, h⟩ := b2d h
  have w := oX16_before fu  a2 v1 M hB  eM2
  have hS := hS.tr w.1
  have hB := w.2
  by_cases hc : v3 = 0
  · have h := (if_pos hc).symm.trans h
    obtain ⟨v4, ev4, h⟩ := bd h
    by_cases hc : v4 = 0
    · have h := (if_pos hc).symm.trans h
      obtain ⟨M5, eM5, h⟩ := bd h
      have w := pZ_own hB (show 12 ≤ 12 ∧ 12 ≤ 16 from by decide) eM5
      have hS := hS.tr w.1
      have hB := w.2
      obtain ⟨M6, eM6, h⟩ := bd h
      have w := pF_own hB (show 12 ≤ 12 ∧ 12 ≤ 16 from by decide) eM6
      have hS := hS.tr w.1
      have hB := w.2
      obtain ⟨v7, ev7, h⟩ := bd h
      obtain ⟨M8, eM8, h⟩ := bd h
      have w := pF_own hB (show 12 ≤ 12 ∧ 12 ≤ 16 from by decide) eM8
      have hS := hS.tr w.1
      have hB := w.2
      have z := oX16_noted_L54 fu   a0 a1 M8 hB ra0 ia1 h
      exact ⟨hS.tr z.1, z.2⟩
    · have h := (if_neg hc).symm.trans h
      have z := oX16_noted_L54 fu   a0 a1 M2 hB ra0 ia1 h
      exact ⟨hS.tr z.1, z.2⟩
  · have h := (if_neg hc).symm.trans h
    obtain ⟨v9, ev9, h⟩ := bd h
    have iv9 := gR_in hB (show 12 ≤ 16 ∧ 16 ≤ 16 from by decide) ev9
    obtain ⟨v10, ev10, h⟩ := bd h
    obtain ⟨M11, eM11, h⟩ := bd h
    have w := pA_own hB iv9 (by decide) eM11
    have hS := hS.tr w.1
    have hB := w.2
    obtain ⟨M12, eM12, h⟩ := bd h
    have w := pZ_own hB (show 12 ≤ 12 ∧ 12 ≤ 16 from by decide) eM12
    have hS := hS.tr w.1
    have hB := w.2
    have z := oX16_noted_L54 fu   a0 a1 M12 hB ra0 ia1 h
    exact ⟨hS.tr z.1, z.2⟩
theorem oX16_synAck (fu : Nat)   (a0 : Nat) (a1 : Option Nat)  (M : Mm) {out : Mm} (hB : Bd RM TM M) (ra0 : RM a0) (ia1 : inR RM a1) (h : fX16_synAck fu  a0 a1 M = some out) : Sm RM M out ∧ Bd RM TM out := by
  unfold fX16_synAck at h
  have hS : Sm RM M M := Sm.rf
  obtain ⟨v1, ev1, h⟩ := bd h
  obtain ⟨v2, ev2, h⟩ := bd h
  obtain ⟨v3, ev3, h⟩ := bd h
  obtain ⟨v4, ev4, h⟩ := bd h
  obtain ⟨q5, eq5, h⟩ := bd h
  have rq5 := rc_in hB (show 12 ≤ 12 ∧ 12 ≤ 16 from by decide) eq5
  obtain ⟨v7, M6, eM6, h⟩ := b2d h
  have w := oX12_open fu q5  M hB rq5 eM6
  have hS := hS.tr w.1
  have hB := w.2
  obtain ⟨q8, eq8, h⟩ := bd h
  have rq8 := rc_in hB (show 12 ≤ 16 ∧ 16 ≤ 16 from by decide) eq8
  obtain ⟨M9, eM9, h⟩ := bd h
  have w := oX16_segmentOut fu q8 v1 (80 : Int32) v2 v3 v4 (18 : Int32) v7 (4 : Int32) (0 : Int32) M6 hB rq8 eM9
  have hS := hS.tr w.1
  have hB := w.2
  obtain ⟨q10, eq10, h⟩ := bd h
  have rq10 := rc_in hB (show 12 ≤ 16 ∧ 16 ≤ 16 from by decide) eq10
  obtain ⟨M11, eM11, h⟩ := bd h
  have w := oX16_pays fu q10 a1 M9 hB rq10 ia1 eM11
  have hS := hS.tr w.1
  have hB := w.2
  obtain ⟨v12, ev12, h⟩ := bd h
  obtain ⟨q13, eq13, h⟩ := bd h
  have rq13 := rc_in hB (show 12 ≤ 16 ∧ 16 ≤ 16 from by decide) eq13
  obtain ⟨M14, eM14, h⟩ := bd h
  have w := oX16_noted fu q13 a1 v12 M11 hB rq13 ia1 eM14
  have hS := hS.tr w.1
  have hB := w.2
  obtain ⟨v15, ev15, h⟩ := bd h
  obtain ⟨M16, eM16, h⟩ := bd h
  have w := pF_own hB (show 12 ≤ 12 ∧ 12 ≤ 16 from by decide) eM16
  have hS := hS.tr w.1
  have hB := w.2
  obtain ⟨v17, ev17, h⟩ := bd h
  obtain ⟨v18, ev18, h⟩ := bd h
  obtain ⟨v20, M19, eM19, h⟩ := b2d h
  have w := oX16_before fu  v17 v18 M16 hB  eM19
  have hS := hS.tr w.1
  have hB := w.2
  by_cases hc : v20 = 0
  · have h := (if_pos hc).symm.trans h
    obtain rfl := Option.some.inj h
    exact ⟨hS, hB⟩
  · have h := (if_neg hc).symm.trans h
    obtain ⟨v21, ev21, h⟩ := bd h
    obtain ⟨M22, eM22, h⟩ := bd h
    have w := pF_own hB (show 12 ≤ 12 ∧ 12 ≤ 16 from by decide) eM22
    have hS := hS.tr w.1
    have hB := w.2
    obtain rfl := Option.some.inj h
    exact ⟨hS, hB⟩
theorem oX16_alone_L27 (fu : Nat)   (a0 : Nat)  (M : Mm) {out : Mm} (hB : Bd RM TM M) (ra0 : RM a0) (h : fX16_alone_L27 fu  a0 M = some out) : Sm RM M out ∧ Bd RM TM out := by
  unfold fX16_alone_L27 at h
  have hS : Sm RM M M := Sm.rf
  obtain ⟨q1, eq1, h⟩ := bd h
  have rq1 := rc_in hB (show 12 ≤ 16 ∧ 16 ≤ 16 from by decide) eq1
  obtain ⟨M2, eM2, h⟩ := bd h
  have w := oX16_reset fu q1  M hB rq1 eM2
  have hS := hS.tr w.1
  have hB := w.2
  obtain rfl := Option.some.inj h
  exact ⟨hS, hB⟩
theorem oX16_alone_L360 (fu : Nat) {out : Mm}   : ∀ (n : Nat) (a0 : Nat) (a1 : Option Nat) (a2 : Int32)  (M : Mm), Bd RM TM M → RM a0 → inR RM a1 → fX16_alone_L360 fu  n a0 a1 a2 M = some out → Sm RM M out ∧ Bd RM TM out := by
  intro n
  induction n with
  | zero =>
    intro a0 a1 a2 M hB ra0 ia1 h
    have h : (none : Option (Mm)) = some out := h
    cases h
  | succ n ih =>
    intro a0 a1 a2 M hB ra0 ia1 h
    rw [fX16_alone_L360] at h
    have hS : Sm RM M M := Sm.rf
    by_cases hc : (4096 : Int32) ≤ a2
    · have h := (if_pos hc).symm.trans h
      obtain ⟨q1, eq1, h⟩ := bd h
      have rq1 := rc_in hB (show 12 ≤ 16 ∧ 16 ≤ 16 from by decide) eq1
      obtain ⟨M2, eM2, h⟩ := bd h
      have w := oX16_synAck fu q1 a1 M hB rq1 ia1 eM2
      have hS := hS.tr w.1
      have hB := w.2
      obtain rfl := Option.some.inj h
      exact ⟨hS, hB⟩
    · have h := (if_neg hc).symm.trans h
      obtain ⟨v3, ev3, h⟩ := bd h
      have iv3 := gR_in hB (show 12 ≤ 12 ∧ 12 ≤ 16 from by decide) ev3
      obtain ⟨M4, eM4, h⟩ := bd h
      have w := pA_own hB iv3 (by decide) eM4
      have hS := hS.tr w.1
      have hB := w.2
      have z := ih a0 a1 (a2 + (1 : Int32)) M4 hB ra0 ia1 h
      exact ⟨hS.tr z.1, z.2⟩
theorem oX16_alone_L255 (fu : Nat)   (a0 : Nat) (a1 : Option Nat) (s0 : Option Nat) (s1 : Int32) (M : Mm) {out : Mm} (hB : Bd RM TM M) (ra0 : RM a0) (ia1 : inR RM a1) (is0 : inR RM s0) (h : fX16_alone_L255 fu  a0 a1 s0 s1 M = some out) : Sm RM M out ∧ Bd RM TM out := by
  unfold fX16_alone_L255 at h
  have hS : Sm RM M M := Sm.rf
  obtain ⟨M1, eM1, h⟩ := bd h
  have w := pF_own hB (show 12 ≤ 12 ∧ 12 ≤ 16 from by decide) eM1
  have hS := hS.tr w.1
  have hB := w.2
  obtain ⟨M2, eM2, h⟩ := bd h
  have w := pF_own hB (show 12 ≤ 12 ∧ 12 ≤ 16 from by decide) eM2
  have hS := hS.tr w.1
  have hB := w.2
  obtain ⟨M3, eM3, h⟩ := bd h
  have w := pF_own hB (show 12 ≤ 12 ∧ 12 ≤ 16 from by decide) eM3
  have hS := hS.tr w.1
  have hB := w.2
  obtain ⟨M4, eM4, h⟩ := bd h
  have w := pZ_own hB (show 12 ≤ 12 ∧ 12 ≤ 16 from by decide) eM4
  have hS := hS.tr w.1
  have hB := w.2
  obtain ⟨M5, eM5, h⟩ := bd h
  have w := pZ_own hB (show 12 ≤ 12 ∧ 12 ≤ 16 from by decide) eM5
  have hS := hS.tr w.1
  have hB := w.2
  obtain ⟨M6, eM6, h⟩ := bd h
  have w := pZ_own hB (show 12 ≤ 12 ∧ 12 ≤ 16 from by decide) eM6
  have hS := hS.tr w.1
  have hB := w.2
  obtain ⟨M7, eM7, h⟩ := bd h
  have w := pZ_own hB (show 12 ≤ 12 ∧ 12 ≤ 16 from by decide) eM7
  have hS := hS.tr w.1
  have hB := w.2
  obtain ⟨M8, eM8, h⟩ := bd h
  have w := pF_own hB (show 12 ≤ 12 ∧ 12 ≤ 16 from by decide) eM8
  have hS := hS.tr w.1
  have hB := w.2
  obtain ⟨M9, eM9, h⟩ := bd h
  have w := pF_own hB (show 12 ≤ 12 ∧ 12 ≤ 16 from by decide) eM9
  have hS := hS.tr w.1
  have hB := w.2
  obtain ⟨M10, eM10, h⟩ := bd h
  have w := pF_own hB (show 12 ≤ 12 ∧ 12 ≤ 16 from by decide) eM10
  have hS := hS.tr w.1
  have hB := w.2
  obtain ⟨M11, eM11, h⟩ := bd h
  have w := pF_own hB (show 12 ≤ 12 ∧ 12 ≤ 16 from by decide) eM11
  have hS := hS.tr w.1
  have hB := w.2
  obtain ⟨v12, ev12, h⟩ := bd h
  obtain ⟨M13, eM13, h⟩ := bd h
  have w := pF_own hB (show 12 ≤ 12 ∧ 12 ≤ 16 from by decide) eM13
  have hS := hS.tr w.1
  have hB := w.2
  obtain ⟨M14, eM14, h⟩ := bd h
  have w := pZ_own hB (show 12 ≤ 12 ∧ 12 ≤ 16 from by decide) eM14
  have hS := hS.tr w.1
  have hB := w.2
  obtain ⟨M15, eM15, h⟩ := bd h
  have w := pZ_own hB (show 12 ≤ 12 ∧ 12 ≤ 16 from by decide) eM15
  have hS := hS.tr w.1
  have hB := w.2
  obtain ⟨M16, eM16, h⟩ := bd h
  have w := pF_own hB (show 12 ≤ 12 ∧ 12 ≤ 16 from by decide) eM16
  have hS := hS.tr w.1
  have hB := w.2
  obtain ⟨M17, eM17, h⟩ := bd h
  have w := pZ_own hB (show 12 ≤ 12 ∧ 12 ≤ 16 from by decide) eM17
  have hS := hS.tr w.1
  have hB := w.2
  obtain ⟨M18, eM18, h⟩ := bd h
  have w := pZ_own hB (show 12 ≤ 12 ∧ 12 ≤ 16 from by decide) eM18
  have hS := hS.tr w.1
  have hB := w.2
  obtain ⟨M19, eM19, h⟩ := bd h
  have w := pZ_own hB (show 12 ≤ 12 ∧ 12 ≤ 16 from by decide) eM19
  have hS := hS.tr w.1
  have hB := w.2
  obtain ⟨M20, eM20, h⟩ := bd h
  have w := pF_own hB (show 12 ≤ 12 ∧ 12 ≤ 16 from by decide) eM20
  have hS := hS.tr w.1
  have hB := w.2
  have z := oX16_alone_L360 fu   fu a0 a1 (0 : Int32) M20 hB ra0 ia1 h
  exact ⟨hS.tr z.1, z.2⟩
theorem oX16_alone_L77 (fu : Nat) {out : Mm} (k54 : Nat → Option Nat → Int32 → Mm → Option (Mm)) (hk54 : ∀ (b0 : Nat) (b1 : Option Nat) (b2 : Int32)  (M : Mm), Bd RM TM M → RM b0 → inR RM b1 → k54 b0 b1 b2 M = some out → Sm RM M out ∧ Bd RM TM out) (a0 : Nat) (a1 : Option Nat) (a2 : Int32)  (M : Mm) (hB : Bd RM TM M) (ra0 : RM a0) (ia1 : inR RM a1) (h : fX16_alone_L77 fu k54 a0 a1 a2 M = some out) : Sm RM M out ∧ Bd RM TM out := by
  unfold fX16_alone_L77 at h
  have hS : Sm RM M M := Sm.rf
  have z := hk54 a0 a1 (a2 + (-1 : Int32)) M hB ra0 ia1 h
  exact ⟨hS.tr z.1, z.2⟩
theorem oX16_alone_L54 (fu : Nat) {out : Mm}   : ∀ (n : Nat) (a0 : Nat) (a1 : Option Nat) (a2 : Int32)  (M : Mm), Bd RM TM M → RM a0 → inR RM a1 → fX16_alone_L54 fu  n a0 a1 a2 M = some out → Sm RM M out ∧ Bd RM TM out := by
  intro n
  induction n with
  | zero =>
    intro a0 a1 a2 M hB ra0 ia1 h
    have h : (none : Option (Mm)) = some out := h
    cases h
  | succ n ih =>
    intro a0 a1 a2 M hB ra0 ia1 h
    rw [fX16_alone_L54] at h
    have hS : Sm RM M M := Sm.rf
    by_cases hc : a2 < 0
    · have h := (if_pos hc).symm.trans h
      by_cases hc : a1 = none
      · have h := (if_pos hc).symm.trans h
        obtain rfl := Option.some.inj h
        exact ⟨hS, hB⟩
      · have h := (if_neg hc).symm.trans h
        obtain ⟨v1, ev1, h⟩ := bd h
        obtain ⟨M2, eM2, h⟩ := bd h
        have w := pF_own hB (show 12 ≤ 16 ∧ 16 ≤ 16 from by decide) eM2
        have hS := hS.tr w.1
        have hB := w.2
        obtain ⟨v3, ev3, h⟩ := bd h
        have iv3 := gR_in hB (show 12 ≤ 16 ∧ 16 ≤ 16 from by decide) ev3
        obtain ⟨v4, ev4, h⟩ := bd h
        obtain ⟨M5, eM5, h⟩ := bd h
        have w := pA_own hB iv3 (by decide) eM5
        have hS := hS.tr w.1
        have hB := w.2
        obtain ⟨M6, eM6, h⟩ := bd h
        have w := pF_own hB (show 12 ≤ 12 ∧ 12 ≤ 16 from by decide) eM6
        have hS := hS.tr w.1
        have hB := w.2
        obtain ⟨v7, ev7, h⟩ := bd h
        obtain ⟨M8, eM8, h⟩ := bd h
        have w := pF_own hB (show 12 ≤ 12 ∧ 12 ≤ 16 from by decide) eM8
        have hS := hS.tr w.1
        have hB := w.2
        obtain ⟨v9, ev9, h⟩ := bd h
        obtain ⟨M10, eM10, h⟩ := bd h
        have w := pF_own hB (show 12 ≤ 12 ∧ 12 ≤ 16 from by decide) eM10
        have hS := hS.tr w.1
        have hB := w.2
        obtain ⟨v11, ev11, h⟩ := bd h
        obtain ⟨M12, eM12, h⟩ := bd h
        have w := pF_own hB (show 12 ≤ 12 ∧ 12 ≤ 16 from by decide) eM12
        have hS := hS.tr w.1
        have hB := w.2
        obtain ⟨v13, ev13, h⟩ := bd h
        obtain ⟨M14, eM14, h⟩ := bd h
        have w := pF_own hB (show 12 ≤ 12 ∧ 12 ≤ 16 from by decide) eM14
        have hS := hS.tr w.1
        have hB := w.2
        obtain ⟨v15, ev15, h⟩ := bd h
        obtain ⟨M16, eM16, h⟩ := bd h
        have w := pF_own hB (show 12 ≤ 12 ∧ 12 ≤ 16 from by decide) eM16
        have hS := hS.tr w.1
        have hB := w.2
        obtain ⟨v17, ev17, h⟩ := bd h
        obtain ⟨v18, ev18, h⟩ := bd h
        obtain ⟨M19, eM19, h⟩ := bd h
        have w := pF_own hB (show 12 ≤ 12 ∧ 12 ≤ 16 from by decide) eM19
        have hS := hS.tr w.1
        have hB := w.2
        obtain ⟨v20, ev20, h⟩ := bd h
        obtain ⟨M21, eM21, h⟩ := bd h
        have w := pF_own hB (show 12 ≤ 12 ∧ 12 ≤ 16 from by decide) eM21
        have hS := hS.tr w.1
        have hB := w.2
        obtain ⟨v22, ev22, h⟩ := bd h
        obtain ⟨M23, eM23, h⟩ := bd h
        have w := pF_own hB (show 12 ≤ 12 ∧ 12 ≤ 16 from by decide) eM23
        have hS := hS.tr w.1
        have hB := w.2
        obtain ⟨v24, ev24, h⟩ := bd h
        obtain ⟨M25, eM25, h⟩ := bd h
        have w := pF_own hB (show 12 ≤ 12 ∧ 12 ≤ 16 from by decide) eM25
        have hS := hS.tr w.1
        have hB := w.2
        obtain ⟨v26, ev26, h⟩ := bd h
        obtain ⟨M27, eM27, h⟩ := bd h
        have w := pF_own hB (show 12 ≤ 12 ∧ 12 ≤ 16 from by decide) eM27
        have hS := hS.tr w.1
        have hB := w.2
        obtain ⟨v28, ev28, h⟩ := bd h
        obtain ⟨M29, eM29, h⟩ := bd h
        have w := pF_own hB (show 12 ≤ 12 ∧ 12 ≤ 16 from by decide) eM29
        have hS := hS.tr w.1
        have hB := w.2
        obtain ⟨M30, eM30, h⟩ := bd h
        have w := pF_own hB (show 12 ≤ 12 ∧ 12 ≤ 16 from by decide) eM30
        have hS := hS.tr w.1
        have hB := w.2
        obtain ⟨q31, eq31, h⟩ := bd h
        have rq31 := rc_in hB (show 12 ≤ 16 ∧ 16 ≤ 16 from by decide) eq31
        obtain ⟨v33, M32, eM32, h⟩ := b2d h
        have w := oX16_optionMss fu q31  M30 hB rq31 eM32
        have hS := hS.tr w.1
        have hB := w.2
        obtain ⟨M34, eM34, h⟩ := bd h
        have w := pF_own hB (show 12 ≤ 12 ∧ 12 ≤ 16 from by decide) eM34
        have hS := hS.tr w.1
        have hB := w.2
        obtain ⟨v35, ev35, h⟩ := bd h
        by_cases hc : (1095 : Int32) < v35
        · have h := (if_pos hc).symm.trans h
          obtain ⟨v36, ev36, h⟩ := bd h
          have z := oX16_alone_L255 fu   a0 a1 a1 ((3 : Int32) * v36) M34 hB ra0 ia1 ia1 h
          exact ⟨hS.tr z.1, z.2⟩
        · have h := (if_neg hc).symm.trans h
          obtain ⟨v37, ev37, h⟩ := bd h
          have z := oX16_alone_L255 fu   a0 a1 a1 ((4 : Int32) * v37) M34 hB ra0 ia1 ia1 h
          exact ⟨hS.tr z.1, z.2⟩
    · have h := (if_neg hc).symm.trans h
      obtain ⟨v38, ev38, h⟩ := bd h
      have iv38 := gR_in hB (show 12 ≤ 16 ∧ 16 ≤ 16 from by decide) ev38
      obtain ⟨v39, ev39, h⟩ := bd h
      have iv39 := gB_in hB iv38 ev39
      obtain ⟨v40, ev40, h⟩ := bd h
      by_cases hc : v40 = 0
      · have h := (if_pos hc).symm.trans h
        obtain ⟨v41, ev41, h⟩ := bd h
        have iv41 := gR_in hB (show 12 ≤ 16 ∧ 16 ≤ 16 from by decide) ev41
        obtain ⟨v42, ev42, h⟩ := bd h
        have iv42 := gB_in hB iv41 ev42
        have z := oX16_alone_L77 fu (fun b0 b1 b2 M => fX16_alone_L54 fu  n b0 b1 b2 M) ih a0 v42 a2 M hB ra0 iv42 h
        exact ⟨hS.tr z.1, z.2⟩
      · have h := (if_neg hc).symm.trans h
        have z := oX16_alone_L77 fu (fun b0 b1 b2 M => fX16_alone_L54 fu  n b0 b1 b2 M) ih a0 a1 a2 M hB ra0 ia1 h
        exact ⟨hS.tr z.1, z.2⟩
theorem oX16_alone (fu : Nat)   (a0 : Nat)  (M : Mm) {out : Mm} (hB : Bd RM TM M) (ra0 : RM a0) (h : fX16_alone fu  a0 M = some out) : Sm RM M out ∧ Bd RM TM out := by
  unfold fX16_alone at h
  have hS : Sm RM M M := Sm.rf
  obtain ⟨q1, eq1, h⟩ := bd h
  have rq1 := rc_in hB (show 12 ≤ 16 ∧ 16 ≤ 16 from by decide) eq1
  obtain ⟨v3, M2, eM2, h⟩ := b2d h
  have w := oX16_is fu q1 (4 : Int32) M hB rq1 eM2
  have hS := hS.tr w.1
  have hB := w.2
  by_cases hc : v3 = 0
  · have h := (if_pos hc).symm.trans h
    obtain ⟨v4, ev4, h⟩ := bd h
    by_cases hc : v4 = (80 : Int32)
    · have h := (if_pos hc).symm.trans h
      obtain ⟨q5, eq5, h⟩ := bd h
      have rq5 := rc_in hB (show 12 ≤ 16 ∧ 16 ≤ 16 from by decide) eq5
      obtain ⟨v7, M6, eM6, h⟩ := b2d h
      have w := oX16_is fu q5 (16 : Int32) M2 hB rq5 eM6
      have hS := hS.tr w.1
      have hB := w.2
      by_cases hc : v7 = 0
      · have h := (if_pos hc).symm.trans h
        obtain ⟨q8, eq8, h⟩ := bd h
        have rq8 := rc_in hB (show 12 ≤ 16 ∧ 16 ≤ 16 from by decide) eq8
        obtain ⟨v10, M9, eM9, h⟩ := b2d h
        have w := oX16_is fu q8 (2 : Int32) M6 hB rq8 eM9
        have hS := hS.tr w.1
        have hB := w.2
        by_cases hc : v10 = 0
        · have h := (if_pos hc).symm.trans h
          obtain rfl := Option.some.inj h
          exact ⟨hS, hB⟩
        · have h := (if_neg hc).symm.trans h
          obtain ⟨q11, eq11, h⟩ := bd h
          have rq11 := rc_in hB (show 12 ≤ 16 ∧ 16 ≤ 16 from by decide) eq11
          obtain ⟨v13, M12, eM12, h⟩ := b2d h
          have w := oX16_is fu q11 (1 : Int32) M9 hB rq11 eM12
          have hS := hS.tr w.1
          have hB := w.2
          by_cases hc : v13 = 0
          · have h := (if_pos hc).symm.trans h
            have z := oX16_alone_L54 fu   fu a0 none (15 : Int32) M12 hB ra0 inR_none h
            exact ⟨hS.tr z.1, z.2⟩
          · have h := (if_neg hc).symm.trans h
            obtain rfl := Option.some.inj h
            exact ⟨hS, hB⟩
      · have h := (if_neg hc).symm.trans h
        have z := oX16_alone_L27 fu   a0 M6 hB ra0 h
        exact ⟨hS.tr z.1, z.2⟩
    · have h := (if_neg hc).symm.trans h
      have z := oX16_alone_L27 fu   a0 M2 hB ra0 h
      exact ⟨hS.tr z.1, z.2⟩
  · have h := (if_neg hc).symm.trans h
    obtain rfl := Option.some.inj h
    exact ⟨hS, hB⟩
theorem oX16_lies (fu : Nat)   (a0 : Option Nat) (a1 : Int32) (a2 : Int32)  (M : Mm) {out : Int32 × Mm} (hB : Bd RM TM M) (ia0 : inR RM a0) (h : fX16_lies fu  a0 a1 a2 M = some out) : Sm RM M out.2 ∧ Bd RM TM out.2 := by
  unfold fX16_lies at h
  have hS : Sm RM M M := Sm.rf
  obtain ⟨v1, ev1, h⟩ := bd h
  obtain ⟨v3, M2, eM2, h⟩ := b2d h
  have w := oX16_before fu  a1 v1 M hB  eM2
  have hS := hS.tr w.1
  have hB := w.2
  by_cases hc : v3 = 0
  · have h := (if_pos hc).symm.trans h
    obtain ⟨v4, ev4, h⟩ := bd h
    obtain ⟨v6, M5, eM5, h⟩ := b2d h
    have w := oX16_before fu  a1 (v4 + a2) M2 hB  eM5
    have hS := hS.tr w.1
    have hB := w.2
    by_cases hc : v6 = 0
    · have h := (if_pos hc).symm.trans h
      obtain ⟨hz, rfl⟩ := rN_some h
      exact ⟨hS, hB⟩
    · have h := (if_neg hc).symm.trans h
      obtain ⟨hz, rfl⟩ := rN_some h
      exact ⟨hS, hB⟩
  · have h := (if_neg hc).symm.trans h
    obtain ⟨hz, rfl⟩ := rN_some h
    exact ⟨hS, hB⟩
theorem oX16_isAcceptable (fu : Nat)   (a0 : Nat) (a1 : Option Nat)  (M : Mm) {out : Int32 × Mm} (hB : Bd RM TM M) (ra0 : RM a0) (ia1 : inR RM a1) (h : fX16_isAcceptable fu  a0 a1 M = some out) : Sm RM M out.2 ∧ Bd RM TM out.2 := by
  unfold fX16_isAcceptable at h
  have hS : Sm RM M M := Sm.rf
  obtain ⟨q1, eq1, h⟩ := bd h
  have rq1 := rc_in hB (show 12 ≤ 12 ∧ 12 ≤ 16 from by decide) eq1
  obtain ⟨v3, M2, eM2, h⟩ := b2d h
  have w := oX12_open fu q1  M hB rq1 eM2
  have hS := hS.tr w.1
  have hB := w.2
  obtain ⟨q4, eq4, h⟩ := bd h
  have rq4 := rc_in hB (show 12 ≤ 16 ∧ 16 ≤ 16 from by decide) eq4
  obtain ⟨v6, M5, eM5, h⟩ := b2d h
  have w := oX16_extent fu q4  M2 hB rq4 eM5
  have hS := hS.tr w.1
  have hB := w.2
  by_cases hc : v3 = 0
  · have h := (if_pos hc).symm.trans h
    by_cases hc : v6 = 0
    · have h := (if_pos hc).symm.trans h
      obtain ⟨v13, ev13, h⟩ := bd h
      obtain ⟨v14, ev14, h⟩ := bd h
      by_cases hc : v13 = v14
      · have h := (if_pos hc).symm.trans h
        obtain ⟨hz, rfl⟩ := rN_some h
        exact ⟨hS, hB⟩
      · have h := (if_neg hc).symm.trans h
        obtain ⟨hz, rfl⟩ := rN_some h
        exact ⟨hS, hB⟩
    · have h := (if_neg hc).symm.trans h
      obtain ⟨hz, rfl⟩ := rN_some h
      exact ⟨hS, hB⟩
  · have h := (if_neg hc).symm.trans h
    obtain ⟨v7, ev7, h⟩ := bd h
    obtain ⟨v8, ev8, h⟩ := bd h
    obtain ⟨v10, M9, eM9, h⟩ := b2d h
    have w := oX16_lies fu  a1 v8 v3 M5 hB ia1 eM9
    have hS := hS.tr w.1
    have hB := w.2
    by_cases hc : v10 = 0
    · have h := (if_pos hc).symm.trans h
      by_cases hc : v6 ≤ 0
      · have h := (if_pos hc).symm.trans h
        obtain ⟨hz, rfl⟩ := rN_some h
        exact ⟨hS, hB⟩
      · have h := (if_neg hc).symm.trans h
        obtain ⟨v12, M11, eM11, h⟩ := b2d h
        have w := oX16_lies fu  a1 ((v7 + v6) - (1 : Int32)) v3 M9 hB ia1 eM11
        have hS := hS.tr w.1
        have hB := w.2
        by_cases hc : v12 = 0
        · have h := (if_pos hc).symm.trans h
          obtain ⟨hz, rfl⟩ := rN_some h
          exact ⟨hS, hB⟩
        · have h := (if_neg hc).symm.trans h
          obtain ⟨hz, rfl⟩ := rN_some h
          exact ⟨hS, hB⟩
    · have h := (if_neg hc).symm.trans h
      obtain ⟨hz, rfl⟩ := rN_some h
      exact ⟨hS, hB⟩
theorem oX16_acknowledge (fu : Nat)   (a0 : Nat) (a1 : Option Nat)  (M : Mm) {out : Mm} (hB : Bd RM TM M) (ra0 : RM a0) (ia1 : inR RM a1) (h : fX16_acknowledge fu  a0 a1 M = some out) : Sm RM M out ∧ Bd RM TM out := by
  unfold fX16_acknowledge at h
  have hS : Sm RM M M := Sm.rf
  obtain ⟨v1, ev1, h⟩ := bd h
  obtain ⟨v2, ev2, h⟩ := bd h
  obtain ⟨v3, ev3, h⟩ := bd h
  obtain ⟨v4, ev4, h⟩ := bd h
  obtain ⟨q5, eq5, h⟩ := bd h
  have rq5 := rc_in hB (show 12 ≤ 12 ∧ 12 ≤ 16 from by decide) eq5
  obtain ⟨v7, M6, eM6, h⟩ := b2d h
  have w := oX12_open fu q5  M hB rq5 eM6
  have hS := hS.tr w.1
  have hB := w.2
  obtain ⟨q8, eq8, h⟩ := bd h
  have rq8 := rc_in hB (show 12 ≤ 16 ∧ 16 ≤ 16 from by decide) eq8
  obtain ⟨M9, eM9, h⟩ := bd h
  have w := oX16_segmentOut fu q8 v1 (80 : Int32) v2 v3 v4 (16 : Int32) v7 (0 : Int32) (0 : Int32) M6 hB rq8 eM9
  have hS := hS.tr w.1
  have hB := w.2
  obtain ⟨q10, eq10, h⟩ := bd h
  have rq10 := rc_in hB (show 12 ≤ 16 ∧ 16 ≤ 16 from by decide) eq10
  obtain ⟨M11, eM11, h⟩ := bd h
  have w := oX16_pays fu q10 a1 M9 hB rq10 ia1 eM11
  have hS := hS.tr w.1
  have hB := w.2
  obtain rfl := Option.some.inj h
  exact ⟨hS, hB⟩
theorem oX16_gone (fu : Nat)   (a0 : Nat) (a1 : Option Nat)  (M : Mm) {out : Mm} (hB : Bd RM TM M) (ra0 : RM a0) (ia1 : inR RM a1) (h : fX16_gone fu  a0 a1 M = some out) : Sm RM M out ∧ Bd RM TM out := by
  unfold fX16_gone at h
  have hS : Sm RM M M := Sm.rf
  obtain ⟨M1, eM1, h⟩ := bd h
  have w := pF_own hB (show 12 ≤ 12 ∧ 12 ≤ 16 from by decide) eM1
  have hS := hS.tr w.1
  have hB := w.2
  obtain ⟨M2, eM2, h⟩ := bd h
  have w := pZ_own hB (show 12 ≤ 12 ∧ 12 ≤ 16 from by decide) eM2
  have hS := hS.tr w.1
  have hB := w.2
  obtain rfl := Option.some.inj h
  exact ⟨hS, hB⟩
theorem oX16_isBehind (fu : Nat)   (a0 : Int32) (a1 : Int32)  (M : Mm) {out : Int32 × Mm} (hB : Bd RM TM M)  (h : fX16_isBehind fu  a0 a1 M = some out) : Sm RM M out.2 ∧ Bd RM TM out.2 := by
  unfold fX16_isBehind at h
  have hS : Sm RM M M := Sm.rf
  by_cases hc : (a0 - a1) ≤ 0
  · have h := (if_pos hc).symm.trans h
    obtain ⟨hz, rfl⟩ := rN_some h
    exact ⟨hS, hB⟩
  · have h := (if_neg hc).symm.trans h
    obtain ⟨hz, rfl⟩ := rN_some h
    exact ⟨hS, hB⟩
theorem oX16_measure_L73 (fu : Nat)   (a0 : Option Nat)  (M : Mm) {out : Mm} (hB : Bd RM TM M) (ia0 : inR RM a0) (h : fX16_measure_L73 fu  a0 M = some out) : Sm RM M out ∧ Bd RM TM out := by
  unfold fX16_measure_L73 at h
  have hS : Sm RM M M := Sm.rf
  obtain ⟨v1, ev1, h⟩ := bd h
  obtain ⟨v2, ev2, h⟩ := bd h
  obtain ⟨v3, ev3, h⟩ := bd h
  obtain ⟨M4, eM4, h⟩ := bd h
  have w := pF_own hB (show 12 ≤ 12 ∧ 12 ≤ 16 from by decide) eM4
  have hS := hS.tr w.1
  have hB := w.2
  obtain rfl := Option.some.inj h
  exact ⟨hS, hB⟩
theorem oX16_measure_L31 (fu : Nat)   (a0 : Option Nat) (a1 : Int32) (s0 : Option Nat) (s1 : Int32) (s2 : Int32) (M : Mm) {out : Mm} (hB : Bd RM TM M) (ia0 : inR RM a0) (is0 : inR RM s0) (h : fX16_measure_L31 fu  a0 a1 s0 s1 s2 M = some out) : Sm RM M out ∧ Bd RM TM out := by
  unfold fX16_measure_L31 at h
  have hS : Sm RM M M := Sm.rf
  obtain ⟨M1, eM1, h⟩ := bd h
  have w := pF_own hB (show 12 ≤ 12 ∧ 12 ≤ 16 from by decide) eM1
  have hS := hS.tr w.1
  have hB := w.2
  obtain ⟨v2, ev2, h⟩ := bd h
  obtain ⟨M3, eM3, h⟩ := bd h
  have w := pF_own hB (show 12 ≤ 12 ∧ 12 ≤ 16 from by decide) eM3
  have hS := hS.tr w.1
  have hB := w.2
  have z := oX16_measure_L73 fu   a0 M3 hB ia0 h
  exact ⟨hS.tr z.1, z.2⟩
theorem oX16_measure (fu : Nat)   (a0 : Option Nat) (a1 : Int32)  (M : Mm) {out : Mm} (hB : Bd RM TM M) (ia0 : inR RM a0) (h : fX16_measure fu  a0 a1 M = some out) : Sm RM M out ∧ Bd RM TM out := by
  unfold fX16_measure at h
  have hS : Sm RM M M := Sm.rf
  obtain ⟨v1, ev1, h⟩ := bd h
  by_cases hc : v1 = 0
  · have h := (if_pos hc).symm.trans h
    obtain ⟨M2, eM2, h⟩ := bd h
    have w := pZ_own hB (show 12 ≤ 12 ∧ 12 ≤ 16 from by decide) eM2
    have hS := hS.tr w.1
    have hB := w.2
    obtain ⟨M3, eM3, h⟩ := bd h
    have w := pF_own hB (show 12 ≤ 12 ∧ 12 ≤ 16 from by decide) eM3
    have hS := hS.tr w.1
    have hB := w.2
    obtain ⟨M4, eM4, h⟩ := bd h
    have w := pF_own hB (show 12 ≤ 12 ∧ 12 ≤ 16 from by decide) eM4
    have hS := hS.tr w.1
    have hB := w.2
    have z := oX16_measure_L73 fu   a0 M4 hB ia0 h
    exact ⟨hS.tr z.1, z.2⟩
  · have h := (if_neg hc).symm.trans h
    obtain ⟨v5, ev5, h⟩ := bd h
    obtain ⟨v6, ev6, h⟩ := bd h
    by_cases hc : 0 ≤ (v5 - a1)
    · have h := (if_pos hc).symm.trans h
      have z := oX16_measure_L31 fu   a0 a1 a0 ((3 : Int32) * v6) (v5 - a1) M hB ia0 ia0 h
      exact ⟨hS.tr z.1, z.2⟩
    · have h := (if_neg hc).symm.trans h
      have z := oX16_measure_L31 fu   a0 a1 a0 ((3 : Int32) * v6) (-(v5 - a1)) M hB ia0 ia0 h
      exact ⟨hS.tr z.1, z.2⟩
theorem oX16_fresh_L198 (fu : Nat)   (a0 : Nat) (a1 : Option Nat)  (M : Mm) {out : Mm} (hB : Bd RM TM M) (ra0 : RM a0) (ia1 : inR RM a1) (h : fX16_fresh_L198 fu  a0 a1 M = some out) : Sm RM M out ∧ Bd RM TM out := by
  unfold fX16_fresh_L198 at h
  have hS : Sm RM M M := Sm.rf
  obtain ⟨M1, eM1, h⟩ := bd h
  have w := pF_own hB (show 12 ≤ 12 ∧ 12 ≤ 16 from by decide) eM1
  have hS := hS.tr w.1
  have hB := w.2
  obtain ⟨v2, ev2, h⟩ := bd h
  obtain ⟨M3, eM3, h⟩ := bd h
  have w := pF_own hB (show 12 ≤ 12 ∧ 12 ≤ 16 from by decide) eM3
  have hS := hS.tr w.1
  have hB := w.2
  obtain ⟨M4, eM4, h⟩ := bd h
  have w := pZ_own hB (show 12 ≤ 12 ∧ 12 ≤ 16 from by decide) eM4
  have hS := hS.tr w.1
  have hB := w.2
  obtain ⟨v5, ev5, h⟩ := bd h
  obtain ⟨v6, ev6, h⟩ := bd h
  obtain ⟨v8, M7, eM7, h⟩ := b2d h
  have w := oX16_before fu  v5 v6 M4 hB  eM7
  have hS := hS.tr w.1
  have hB := w.2
  by_cases hc : v8 = 0
  · have h := (if_pos hc).symm.trans h
    obtain rfl := Option.some.inj h
    exact ⟨hS, hB⟩
  · have h := (if_neg hc).symm.trans h
    obtain ⟨q9, eq9, h⟩ := bd h
    have rq9 := rc_in hB (show 12 ≤ 16 ∧ 16 ≤ 16 from by decide) eq9
    obtain ⟨M10, eM10, h⟩ := bd h
    have w := oX16_timerSet fu q9 a1 M7 hB rq9 ia1 eM10
    have hS := hS.tr w.1
    have hB := w.2
    obtain rfl := Option.some.inj h
    exact ⟨hS, hB⟩
theorem oX16_fresh_L182 (fu : Nat)   (a0 : Nat) (a1 : Option Nat) (s0 : Int32) (M : Mm) {out : Mm} (hB : Bd RM TM M) (ra0 : RM a0) (ia1 : inR RM a1) (h : fX16_fresh_L182 fu  a0 a1 s0 M = some out) : Sm RM M out ∧ Bd RM TM out := by
  unfold fX16_fresh_L182 at h
  have hS : Sm RM M M := Sm.rf
  obtain ⟨v1, ev1, h⟩ := bd h
  obtain ⟨M2, eM2, h⟩ := bd h
  have w := pF_own hB (show 12 ≤ 12 ∧ 12 ≤ 16 from by decide) eM2
  have hS := hS.tr w.1
  have hB := w.2
  have z := oX16_fresh_L198 fu   a0 a1 M2 hB ra0 ia1 h
  exact ⟨hS.tr z.1, z.2⟩
theorem oX16_fresh_L111 (fu : Nat)   (a0 : Nat) (a1 : Option Nat) (a2 : Int32)  (M : Mm) {out : Mm} (hB : Bd RM TM M) (ra0 : RM a0) (ia1 : inR RM a1) (h : fX16_fresh_L111 fu  a0 a1 a2 M = some out) : Sm RM M out ∧ Bd RM TM out := by
  unfold fX16_fresh_L111 at h
  have hS : Sm RM M M := Sm.rf
  obtain ⟨v1, ev1, h⟩ := bd h
  by_cases hc : v1 = 0
  · have h := (if_pos hc).symm.trans h
    obtain ⟨v2, ev2, h⟩ := bd h
    by_cases hc : v2 = (1 : Int32)
    · have h := (if_pos hc).symm.trans h
      have z := oX16_fresh_L198 fu   a0 a1 M hB ra0 ia1 h
      exact ⟨hS.tr z.1, z.2⟩
    · have h := (if_neg hc).symm.trans h
      obtain ⟨v3, ev3, h⟩ := bd h
      obtain ⟨v4, ev4, h⟩ := bd h
      by_cases hc : v4 ≤ v3
      · have h := (if_pos hc).symm.trans h
        obtain ⟨v5, ev5, h⟩ := bd h
        obtain ⟨v6, ev6, h⟩ := bd h
        obtain ⟨v7, ev7, h⟩ := bd h
        by_cases hz : v7 = 0
        · rw [if_pos hz] at h; cases h
        have h := (if_neg hz).symm.trans h
        have z := oX16_fresh_L182 fu   a0 a1 (jmax (1 : Int32) ((v5 * v6) / v7)) M hB ra0 ia1 h
        exact ⟨hS.tr z.1, z.2⟩
      · have h := (if_neg hc).symm.trans h
        obtain ⟨v8, ev8, h⟩ := bd h
        have z := oX16_fresh_L182 fu   a0 a1 (jmin a2 v8) M hB ra0 ia1 h
        exact ⟨hS.tr z.1, z.2⟩
  · have h := (if_neg hc).symm.trans h
    obtain ⟨M9, eM9, h⟩ := bd h
    have w := pZ_own hB (show 12 ≤ 12 ∧ 12 ≤ 16 from by decide) eM9
    have hS := hS.tr w.1
    have hB := w.2
    obtain ⟨v10, ev10, h⟩ := bd h
    obtain ⟨M11, eM11, h⟩ := bd h
    have w := pF_own hB (show 12 ≤ 12 ∧ 12 ≤ 16 from by decide) eM11
    have hS := hS.tr w.1
    have hB := w.2
    have z := oX16_fresh_L198 fu   a0 a1 M11 hB ra0 ia1 h
    exact ⟨hS.tr z.1, z.2⟩
theorem oX16_fresh_L67 (fu : Nat)   (a0 : Nat) (a1 : Option Nat) (a2 : Int32)  (M : Mm) {out : Mm} (hB : Bd RM TM M) (ra0 : RM a0) (ia1 : inR RM a1) (h : fX16_fresh_L67 fu  a0 a1 a2 M = some out) : Sm RM M out ∧ Bd RM TM out := by
  unfold fX16_fresh_L67 at h
  have hS : Sm RM M M := Sm.rf
  obtain ⟨M1, eM1, h⟩ := bd h
  have w := pF_own hB (show 12 ≤ 12 ∧ 12 ≤ 16 from by decide) eM1
  have hS := hS.tr w.1
  have hB := w.2
  obtain ⟨v2, ev2, h⟩ := bd h
  by_cases hc : v2 = 0
  · have h := (if_pos hc).symm.trans h
    have z := oX16_fresh_L111 fu   a0 a1 a2 M1 hB ra0 ia1 h
    exact ⟨hS.tr z.1, z.2⟩
  · have h := (if_neg hc).symm.trans h
    obtain ⟨v3, ev3, h⟩ := bd h
    obtain ⟨v4, ev4, h⟩ := bd h
    obtain ⟨v6, M5, eM5, h⟩ := b2d h
    have w := oX16_isBehind fu  v3 v4 M1 hB  eM5
    have hS := hS.tr w.1
    have hB := w.2
    by_cases hc : v6 = 0
    · have h := (if_pos hc).symm.trans h
      have z := oX16_fresh_L111 fu   a0 a1 a2 M5 hB ra0 ia1 h
      exact ⟨hS.tr z.1, z.2⟩
    · have h := (if_neg hc).symm.trans h
      obtain ⟨M7, eM7, h⟩ := bd h
      have w := pZ_own hB (show 12 ≤ 12 ∧ 12 ≤ 16 from by decide) eM7
      have hS := hS.tr w.1
      have hB := w.2
      obtain ⟨v8, ev8, h⟩ := bd h
      obtain ⟨v9, ev9, h⟩ := bd h
      obtain ⟨M10, eM10, h⟩ := bd h
      have w := oX16_measure fu  a1 (v8 - v9) M7 hB ia1 eM10
      have hS := hS.tr w.1
      have hB := w.2
      have z := oX16_fresh_L111 fu   a0 a1 a2 M10 hB ra0 ia1 h
      exact ⟨hS.tr z.1, z.2⟩
theorem oX16_fresh (fu : Nat)   (a0 : Nat) (a1 : Option Nat)  (M : Mm) {out : Mm} (hB : Bd RM TM M) (ra0 : RM a0) (ia1 : inR RM a1) (h : fX16_fresh fu  a0 a1 M = some out) : Sm RM M out ∧ Bd RM TM out := by
  unfold fX16_fresh at h
  have hS : Sm RM M M := Sm.rf
  obtain ⟨v1, ev1, h⟩ := bd h
  obtain ⟨v2, ev2, h⟩ := bd h
  obtain ⟨v3, ev3, h⟩ := bd h
  have iv3 := gR_in hB (show 12 ≤ 16 ∧ 16 ≤ 16 from by decide) ev3
  obtain ⟨v4, ev4, h⟩ := bd h
  obtain ⟨M5, eM5, h⟩ := bd h
  have w := pA_own hB iv3 (by decide) eM5
  have hS := hS.tr w.1
  have hB := w.2
  obtain ⟨v6, ev6, h⟩ := bd h
  have iv6 := gR_in hB (show 12 ≤ 16 ∧ 16 ≤ 16 from by decide) ev6
  obtain ⟨v7, ev7, h⟩ := bd h
  have iv7 := gR_in hB (show 12 ≤ 16 ∧ 16 ≤ 16 from by decide) ev7
  obtain ⟨v8, ev8, h⟩ := bd h
  obtain ⟨M9, eM9, h⟩ := bd h
  have w := pA_own hB iv6 (by decide) eM9
  have hS := hS.tr w.1
  have hB := w.2
  obtain ⟨v10, ev10, h⟩ := bd h
  obtain ⟨M11, eM11, h⟩ := bd h
  have w := pF_own hB (show 12 ≤ 12 ∧ 12 ≤ 16 from by decide) eM11
  have hS := hS.tr w.1
  have hB := w.2
  obtain ⟨v12, ev12, h⟩ := bd h
  obtain ⟨v13, ev13, h⟩ := bd h
  obtain ⟨v15, M14, eM14, h⟩ := b2d h
  have w := oX16_before fu  v12 v13 M11 hB  eM14
  have hS := hS.tr w.1
  have hB := w.2
  by_cases hc : v15 = 0
  · have h := (if_pos hc).symm.trans h
    have z := oX16_fresh_L67 fu   a0 a1 (v1 - v2) M14 hB ra0 ia1 h
    exact ⟨hS.tr z.1, z.2⟩
  · have h := (if_neg hc).symm.trans h
    obtain ⟨v16, ev16, h⟩ := bd h
    obtain ⟨M17, eM17, h⟩ := bd h
    have w := pF_own hB (show 12 ≤ 12 ∧ 12 ≤ 16 from by decide) eM17
    have hS := hS.tr w.1
    have hB := w.2
    have z := oX16_fresh_L67 fu   a0 a1 (v1 - v2) M17 hB ra0 ia1 h
    exact ⟨hS.tr z.1, z.2⟩
theorem oX16_takeWindow (fu : Nat)   (a0 : Nat) (a1 : Option Nat)  (M : Mm) {out : Mm} (hB : Bd RM TM M) (ra0 : RM a0) (ia1 : inR RM a1) (h : fX16_takeWindow fu  a0 a1 M = some out) : Sm RM M out ∧ Bd RM TM out := by
  unfold fX16_takeWindow at h
  have hS : Sm RM M M := Sm.rf
  obtain ⟨v1, ev1, h⟩ := bd h
  obtain ⟨M2, eM2, h⟩ := bd h
  have w := pF_own hB (show 12 ≤ 12 ∧ 12 ≤ 16 from by decide) eM2
  have hS := hS.tr w.1
  have hB := w.2
  obtain ⟨v3, ev3, h⟩ := bd h
  obtain ⟨M4, eM4, h⟩ := bd h
  have w := pF_own hB (show 12 ≤ 12 ∧ 12 ≤ 16 from by decide) eM4
  have hS := hS.tr w.1
  have hB := w.2
  obtain ⟨v5, ev5, h⟩ := bd h
  obtain ⟨M6, eM6, h⟩ := bd h
  have w := pF_own hB (show 12 ≤ 12 ∧ 12 ≤ 16 from by decide) eM6
  have hS := hS.tr w.1
  have hB := w.2
  obtain rfl := Option.some.inj h
  exact ⟨hS, hB⟩
theorem oX16_toSend (fu : Nat)   (a0 : Nat) (a1 : Option Nat) (a2 : Int32)  (M : Mm) {out : Int32 × Mm} (hB : Bd RM TM M) (ra0 : RM a0) (ia1 : inR RM a1) (h : fX16_toSend fu  a0 a1 a2 M = some out) : Sm RM M out.2 ∧ Bd RM TM out.2 := by
  unfold fX16_toSend at h
  have hS : Sm RM M M := Sm.rf
  obtain ⟨v1, ev1, h⟩ := bd h
  obtain ⟨v2, ev2, h⟩ := bd h
  by_cases hc : v2 ≤ (a2 - v1)
  · have h := (if_pos hc).symm.trans h
    obtain ⟨v3, ev3, h⟩ := bd h
    have iv3 := gR_in hB (show 12 ≤ 16 ∧ 16 ≤ 16 from by decide) ev3
    obtain ⟨v4, ev4, h⟩ := bd h
    obtain ⟨v5, ev5, h⟩ := bd h
    obtain ⟨v6, ev6, h⟩ := bd h
    obtain ⟨hz, rfl⟩ := rN_some h
    exact ⟨hS, hB⟩
  · have h := (if_neg hc).symm.trans h
    obtain ⟨v7, ev7, h⟩ := bd h
    have iv7 := gR_in hB (show 12 ≤ 12 ∧ 12 ≤ 16 from by decide) ev7
    obtain ⟨v8, ev8, h⟩ := bd h
    obtain ⟨hz, rfl⟩ := rN_some h
    exact ⟨hS, hB⟩
theorem oX16_dataOut_L113 (fu : Nat)   (a0 : Nat) (a1 : Option Nat) (a2 : Int32) (a3 : Int32) (a4 : Int32) (a5 : Int32)  (M : Mm) {out : Mm} (hB : Bd RM TM M) (ra0 : RM a0) (ia1 : inR RM a1) (h : fX16_dataOut_L113 fu  a0 a1 a2 a3 a4 a5 M = some out) : Sm RM M out ∧ Bd RM TM out := by
  unfold fX16_dataOut_L113 at h
  have hS : Sm RM M M := Sm.rf
  obtain ⟨v1, ev1, h⟩ := bd h
  obtain ⟨v2, ev2, h⟩ := bd h
  obtain ⟨v3, ev3, h⟩ := bd h
  obtain ⟨q4, eq4, h⟩ := bd h
  have rq4 := rc_in hB (show 12 ≤ 12 ∧ 12 ≤ 16 from by decide) eq4
  obtain ⟨v6, M5, eM5, h⟩ := b2d h
  have w := oX12_open fu q4  M hB rq4 eM5
  have hS := hS.tr w.1
  have hB := w.2
  obtain ⟨q7, eq7, h⟩ := bd h
  have rq7 := rc_in hB (show 12 ≤ 16 ∧ 16 ≤ 16 from by decide) eq7
  obtain ⟨M8, eM8, h⟩ := bd h
  have w := oX16_segmentOut fu q7 v1 (80 : Int32) v2 a2 v3 a5 v6 (0 : Int32) a3 M5 hB rq7 eM8
  have hS := hS.tr w.1
  have hB := w.2
  obtain ⟨q9, eq9, h⟩ := bd h
  have rq9 := rc_in hB (show 12 ≤ 16 ∧ 16 ≤ 16 from by decide) eq9
  obtain ⟨M10, eM10, h⟩ := bd h
  have w := oX16_pays fu q9 a1 M8 hB rq9 ia1 eM10
  have hS := hS.tr w.1
  have hB := w.2
  obtain ⟨q11, eq11, h⟩ := bd h
  have rq11 := rc_in hB (show 12 ≤ 16 ∧ 16 ≤ 16 from by decide) eq11
  obtain ⟨M12, eM12, h⟩ := bd h
  have w := oX16_noted fu q11 a1 a2 M10 hB rq11 ia1 eM12
  have hS := hS.tr w.1
  have hB := w.2
  by_cases hc : a4 = 0
  · have h := (if_pos hc).symm.trans h
    obtain rfl := Option.some.inj h
    exact ⟨hS, hB⟩
  · have h := (if_neg hc).symm.trans h
    obtain ⟨v13, ev13, h⟩ := bd h
    by_cases hc : v13 = 0
    · have h := (if_pos hc).symm.trans h
      obtain ⟨M14, eM14, h⟩ := bd h
      have w := pZ_own hB (show 12 ≤ 12 ∧ 12 ≤ 16 from by decide) eM14
      have hS := hS.tr w.1
      have hB := w.2
      obtain ⟨v15, ev15, h⟩ := bd h
      by_cases hc : v15 = (2 : Int32)
      · have h := (if_pos hc).symm.trans h
        obtain ⟨M17, eM17, h⟩ := bd h
        have w := pF_own hB (show 12 ≤ 12 ∧ 12 ≤ 16 from by decide) eM17
        have hS := hS.tr w.1
        have hB := w.2
        obtain rfl := Option.some.inj h
        exact ⟨hS, hB⟩
      · have h := (if_neg hc).symm.trans h
        obtain ⟨M16, eM16, h⟩ := bd h
        have w := pF_own hB (show 12 ≤ 12 ∧ 12 ≤ 16 from by decide) eM16
        have hS := hS.tr w.1
        have hB := w.2
        obtain rfl := Option.some.inj h
        exact ⟨hS, hB⟩
    · have h := (if_neg hc).symm.trans h
      obtain rfl := Option.some.inj h
      exact ⟨hS, hB⟩
theorem oX16_dataOut_L103 (fu : Nat)   (a0 : Nat) (a1 : Option Nat) (a2 : Int32) (a3 : Int32) (a4 : Int32) (a5 : Int32)  (M : Mm) {out : Mm} (hB : Bd RM TM M) (ra0 : RM a0) (ia1 : inR RM a1) (h : fX16_dataOut_L103 fu  a0 a1 a2 a3 a4 a5 M = some out) : Sm RM M out ∧ Bd RM TM out := by
  unfold fX16_dataOut_L103 at h
  have hS : Sm RM M M := Sm.rf
  obtain ⟨v1, ev1, h⟩ := bd h
  obtain ⟨M2, eM2, h⟩ := bd h
  have w := pF_own hB (show 12 ≤ 16 ∧ 16 ≤ 16 from by decide) eM2
  have hS := hS.tr w.1
  have hB := w.2
  have z := oX16_dataOut_L113 fu   a0 a1 a2 a3 a4 a5 M2 hB ra0 ia1 h
  exact ⟨hS.tr z.1, z.2⟩
theorem oX16_dataOut_L67 (fu : Nat)   (a0 : Nat) (a1 : Option Nat) (a2 : Int32) (a3 : Int32) (a4 : Int32) (s0 : Int32) (s1 : Int32) (M : Mm) {out : Mm} (hB : Bd RM TM M) (ra0 : RM a0) (ia1 : inR RM a1) (h : fX16_dataOut_L67 fu  a0 a1 a2 a3 a4 s0 s1 M = some out) : Sm RM M out ∧ Bd RM TM out := by
  unfold fX16_dataOut_L67 at h
  have hS : Sm RM M M := Sm.rf
  obtain ⟨v1, ev1, h⟩ := bd h
  by_cases hc : v1 = (1 : Int32)
  · have h := (if_pos hc).symm.trans h
    have z := oX16_dataOut_L103 fu   a0 a1 a2 a3 a4 (s0 ||| s1) M hB ra0 ia1 h
    exact ⟨hS.tr z.1, z.2⟩
  · have h := (if_neg hc).symm.trans h
    obtain ⟨v2, ev2, h⟩ := bd h
    by_cases hc : v2 = (6 : Int32)
    · have h := (if_pos hc).symm.trans h
      have z := oX16_dataOut_L103 fu   a0 a1 a2 a3 a4 (s0 ||| s1) M hB ra0 ia1 h
      exact ⟨hS.tr z.1, z.2⟩
    · have h := (if_neg hc).symm.trans h
      obtain ⟨v3, ev3, h⟩ := bd h
      by_cases hc : v3 = (4 : Int32)
      · have h := (if_pos hc).symm.trans h
        have z := oX16_dataOut_L103 fu   a0 a1 a2 a3 a4 (s0 ||| s1) M hB ra0 ia1 h
        exact ⟨hS.tr z.1, z.2⟩
      · have h := (if_neg hc).symm.trans h
        obtain ⟨v4, ev4, h⟩ := bd h
        by_cases hc : a3 ≤ v4
        · have h := (if_pos hc).symm.trans h
          have z := oX16_dataOut_L113 fu   a0 a1 a2 a3 a4 (s0 ||| s1) M hB ra0 ia1 h
          exact ⟨hS.tr z.1, z.2⟩
        · have h := (if_neg hc).symm.trans h
          have z := oX16_dataOut_L103 fu   a0 a1 a2 a3 a4 (s0 ||| s1) M hB ra0 ia1 h
          exact ⟨hS.tr z.1, z.2⟩
theorem oX16_dataOut_L56 (fu : Nat)   (a0 : Nat) (a1 : Option Nat) (a2 : Int32) (a3 : Int32) (a4 : Int32) (s0 : Int32) (s1 : Int32) (M : Mm) {out : Mm} (hB : Bd RM TM M) (ra0 : RM a0) (ia1 : inR RM a1) (h : fX16_dataOut_L56 fu  a0 a1 a2 a3 a4 s0 s1 M = some out) : Sm RM M out ∧ Bd RM TM out := by
  unfold fX16_dataOut_L56 at h
  have hS : Sm RM M M := Sm.rf
  by_cases hc : a4 = 0
  · have h := (if_pos hc).symm.trans h
    have z := oX16_dataOut_L67 fu   a0 a1 a2 a3 a4 (s0 ||| s1) (0 : Int32) M hB ra0 ia1 h
    exact ⟨hS.tr z.1, z.2⟩
  · have h := (if_neg hc).symm.trans h
    have z := oX16_dataOut_L67 fu   a0 a1 a2 a3 a4 (s0 ||| s1) (1 : Int32) M hB ra0 ia1 h
    exact ⟨hS.tr z.1, z.2⟩
theorem oX16_dataOut_L55 (fu : Nat)   (a0 : Nat) (a1 : Option Nat) (a2 : Int32) (a3 : Int32) (a4 : Int32) (s0 : Int32) (M : Mm) {out : Mm} (hB : Bd RM TM M) (ra0 : RM a0) (ia1 : inR RM a1) (h : fX16_dataOut_L55 fu  a0 a1 a2 a3 a4 s0 M = some out) : Sm RM M out ∧ Bd RM TM out := by
  unfold fX16_dataOut_L55 at h
  have hS : Sm RM M M := Sm.rf
  have z := oX16_dataOut_L56 fu   a0 a1 a2 a3 a4 s0 (0 : Int32) M hB ra0 ia1 h
  exact ⟨hS.tr z.1, z.2⟩
theorem oX16_dataOut_L3 (fu : Nat) {out : Mm}   : ∀ (n : Nat) (a0 : Nat) (a1 : Option Nat) (a2 : Int32) (a3 : Int32) (a4 : Int32) (a5 : Int32)  (M : Mm), Bd RM TM M → RM a0 → inR RM a1 → fX16_dataOut_L3 fu  n a0 a1 a2 a3 a4 a5 M = some out → Sm RM M out ∧ Bd RM TM out := by
  intro n
  induction n with
  | zero =>
    intro a0 a1 a2 a3 a4 a5 M hB ra0 ia1 h
    have h : (none : Option (Mm)) = some out := h
    cases h
  | succ n ih =>
    intro a0 a1 a2 a3 a4 a5 M hB ra0 ia1 h
    rw [fX16_dataOut_L3] at h
    have hS : Sm RM M M := Sm.rf
    by_cases hc : a3 ≤ a5
    · have h := (if_pos hc).symm.trans h
      by_cases hc : a3 ≤ 0
      · have h := (if_pos hc).symm.trans h
        have z := oX16_dataOut_L55 fu   a0 a1 a2 a3 a4 (16 : Int32) M hB ra0 ia1 h
        exact ⟨hS.tr z.1, z.2⟩
      · have h := (if_neg hc).symm.trans h
        obtain ⟨q1, eq1, h⟩ := bd h
        have rq1 := rc_in hB (show 12 ≤ 12 ∧ 12 ≤ 16 from by decide) eq1
        obtain ⟨v3, M2, eM2, h⟩ := b2d h
        have w := oX12_behind fu q1  M hB rq1 eM2
        have hS := hS.tr w.1
        have hB := w.2
        by_cases hc : (a2 + a3) = v3
        · have h := (if_pos hc).symm.trans h
          have z := oX16_dataOut_L56 fu   a0 a1 a2 a3 a4 (16 : Int32) (8 : Int32) M2 hB ra0 ia1 h
          exact ⟨hS.tr z.1, z.2⟩
        · have h := (if_neg hc).symm.trans h
          have z := oX16_dataOut_L55 fu   a0 a1 a2 a3 a4 (16 : Int32) M2 hB ra0 ia1 h
          exact ⟨hS.tr z.1, z.2⟩
    · have h := (if_neg hc).symm.trans h
      obtain ⟨v4, ev4, h⟩ := bd h
      have iv4 := gR_in hB (show 12 ≤ 16 ∧ 16 ≤ 16 from by decide) ev4
      obtain ⟨q5, eq5, h⟩ := bd h
      have rq5 := rc_in hB (show 12 ≤ 16 ∧ 16 ≤ 16 from by decide) eq5
      obtain ⟨v7, M6, eM6, h⟩ := b2d h
      have w := oX16_toSend fu q5 a1 (a2 + a5) M hB rq5 ia1 eM6
      have hS := hS.tr w.1
      have hB := w.2
      obtain ⟨M8, eM8, h⟩ := bd h
      have w := pA_ownB hB iv4 eM8
      have hS := hS.tr w.1
      have hB := w.2
      have z := ih a0 a1 a2 a3 a4 (a5 + (1 : Int32)) M8 hB ra0 ia1 h
      exact ⟨hS.tr z.1, z.2⟩
theorem oX16_dataOut (fu : Nat)   (a0 : Nat) (a1 : Option Nat) (a2 : Int32) (a3 : Int32) (a4 : Int32)  (M : Mm) {out : Mm} (hB : Bd RM TM M) (ra0 : RM a0) (ia1 : inR RM a1) (h : fX16_dataOut fu  a0 a1 a2 a3 a4 M = some out) : Sm RM M out ∧ Bd RM TM out := by
  unfold fX16_dataOut at h
  have hS : Sm RM M M := Sm.rf
  have z := oX16_dataOut_L3 fu   fu a0 a1 a2 a3 a4 (0 : Int32) M hB ra0 ia1 h
  exact ⟨hS.tr z.1, z.2⟩
theorem oX16_duplicate_L98 (fu : Nat)   (a0 : Nat) (a1 : Option Nat) (a3 : Int32) (s0 : Int32) (M : Mm) {out : Mm} (hB : Bd RM TM M) (ra0 : RM a0) (ia1 : inR RM a1) (h : fX16_duplicate_L98 fu  a0 a1 a3 s0 M = some out) : Sm RM M out ∧ Bd RM TM out := by
  unfold fX16_duplicate_L98 at h
  have hS : Sm RM M M := Sm.rf
  obtain ⟨v1, ev1, h⟩ := bd h
  obtain ⟨q2, eq2, h⟩ := bd h
  have rq2 := rc_in hB (show 12 ≤ 16 ∧ 16 ≤ 16 from by decide) eq2
  obtain ⟨M3, eM3, h⟩ := bd h
  have w := oX16_dataOut fu q2 a1 v1 a3 s0 M hB rq2 ia1 eM3
  have hS := hS.tr w.1
  have hB := w.2
  obtain ⟨v4, ev4, h⟩ := bd h
  obtain ⟨v5, ev5, h⟩ := bd h
  obtain ⟨M6, eM6, h⟩ := bd h
  have w := pF_own hB (show 12 ≤ 12 ∧ 12 ≤ 16 from by decide) eM6
  have hS := hS.tr w.1
  have hB := w.2
  obtain ⟨M7, eM7, h⟩ := bd h
  have w := pZ_own hB (show 12 ≤ 12 ∧ 12 ≤ 16 from by decide) eM7
  have hS := hS.tr w.1
  have hB := w.2
  obtain rfl := Option.some.inj h
  exact ⟨hS, hB⟩
theorem oX16_duplicate_L97 (fu : Nat)   (a0 : Nat) (a1 : Option Nat) (a3 : Int32)  (M : Mm) {out : Mm} (hB : Bd RM TM M) (ra0 : RM a0) (ia1 : inR RM a1) (h : fX16_duplicate_L97 fu  a0 a1 a3 M = some out) : Sm RM M out ∧ Bd RM TM out := by
  unfold fX16_duplicate_L97 at h
  have hS : Sm RM M M := Sm.rf
  have z := oX16_duplicate_L98 fu   a0 a1 a3 (0 : Int32) M hB ra0 ia1 h
  exact ⟨hS.tr z.1, z.2⟩
theorem oX16_duplicate (fu : Nat)   (a0 : Nat) (a1 : Option Nat)  (M : Mm) {out : Mm} (hB : Bd RM TM M) (ra0 : RM a0) (ia1 : inR RM a1) (h : fX16_duplicate fu  a0 a1 M = some out) : Sm RM M out ∧ Bd RM TM out := by
  unfold fX16_duplicate at h
  have hS : Sm RM M M := Sm.rf
  obtain ⟨v1, ev1, h⟩ := bd h
  obtain ⟨M2, eM2, h⟩ := bd h
  have w := pF_own hB (show 12 ≤ 12 ∧ 12 ≤ 16 from by decide) eM2
  have hS := hS.tr w.1
  have hB := w.2
  obtain ⟨v3, ev3, h⟩ := bd h
  by_cases hc : v3 = (3 : Int32)
  · have h := (if_pos hc).symm.trans h
    obtain ⟨v8, ev8, h⟩ := bd h
    obtain ⟨v9, ev9, h⟩ := bd h
    obtain ⟨v10, ev10, h⟩ := bd h
    obtain ⟨M11, eM11, h⟩ := bd h
    have w := pF_own hB (show 12 ≤ 12 ∧ 12 ≤ 16 from by decide) eM11
    have hS := hS.tr w.1
    have hB := w.2
    obtain ⟨q12, eq12, h⟩ := bd h
    have rq12 := rc_in hB (show 12 ≤ 12 ∧ 12 ≤ 16 from by decide) eq12
    obtain ⟨v14, M13, eM13, h⟩ := b2d h
    have w := oX12_behind fu q12  M11 hB rq12 eM13
    have hS := hS.tr w.1
    have hB := w.2
    obtain ⟨v15, ev15, h⟩ := bd h
    obtain ⟨v16, ev16, h⟩ := bd h
    obtain ⟨v17, ev17, h⟩ := bd h
    obtain ⟨v18, ev18, h⟩ := bd h
    obtain ⟨v19, ev19, h⟩ := bd h
    obtain ⟨v20, ev20, h⟩ := bd h
    by_cases hc : v20 = 0
    · have h := (if_pos hc).symm.trans h
      have z := oX16_duplicate_L97 fu   a0 a1 v19 M13 hB ra0 ia1 h
      exact ⟨hS.tr z.1, z.2⟩
    · have h := (if_neg hc).symm.trans h
      obtain ⟨v21, ev21, h⟩ := bd h
      obtain ⟨q22, eq22, h⟩ := bd h
      have rq22 := rc_in hB (show 12 ≤ 12 ∧ 12 ≤ 16 from by decide) eq22
      obtain ⟨v24, M23, eM23, h⟩ := b2d h
      have w := oX12_behind fu q22  M13 hB rq22 eM23
      have hS := hS.tr w.1
      have hB := w.2
      by_cases hc : (v21 + v19) = v24
      · have h := (if_pos hc).symm.trans h
        have z := oX16_duplicate_L98 fu   a0 a1 v19 (1 : Int32) M23 hB ra0 ia1 h
        exact ⟨hS.tr z.1, z.2⟩
      · have h := (if_neg hc).symm.trans h
        have z := oX16_duplicate_L97 fu   a0 a1 v19 M23 hB ra0 ia1 h
        exact ⟨hS.tr z.1, z.2⟩
  · have h := (if_neg hc).symm.trans h
    obtain ⟨v4, ev4, h⟩ := bd h
    by_cases hc : v4 ≤ (3 : Int32)
    · have h := (if_pos hc).symm.trans h
      obtain rfl := Option.some.inj h
      exact ⟨hS, hB⟩
    · have h := (if_neg hc).symm.trans h
      obtain ⟨v5, ev5, h⟩ := bd h
      obtain ⟨v6, ev6, h⟩ := bd h
      obtain ⟨M7, eM7, h⟩ := bd h
      have w := pF_own hB (show 12 ≤ 12 ∧ 12 ≤ 16 from by decide) eM7
      have hS := hS.tr w.1
      have hB := w.2
      obtain rfl := Option.some.inj h
      exact ⟨hS, hB⟩
theorem oX16_acknowledgement_L318 (fu : Nat)   (a0 : Nat) (a1 : Option Nat) (a2 : Int32)  (M : Mm) {out : Int32 × Mm} (hB : Bd RM TM M) (ra0 : RM a0) (ia1 : inR RM a1) (h : fX16_acknowledgement_L318 fu  a0 a1 a2 M = some out) : Sm RM M out.2 ∧ Bd RM TM out.2 := by
  unfold fX16_acknowledgement_L318 at h
  have hS : Sm RM M M := Sm.rf
  by_cases hc : a2 = 0
  · have h := (if_pos hc).symm.trans h
    obtain ⟨hz, rfl⟩ := rN_some h
    exact ⟨hS, hB⟩
  · have h := (if_neg hc).symm.trans h
    obtain ⟨v1, ev1, h⟩ := bd h
    by_cases hc : v1 = (8 : Int32)
    · have h := (if_pos hc).symm.trans h
      obtain ⟨q2, eq2, h⟩ := bd h
      have rq2 := rc_in hB (show 12 ≤ 16 ∧ 16 ≤ 16 from by decide) eq2
      obtain ⟨M3, eM3, h⟩ := bd h
      have w := oX16_gone fu q2 a1 M hB rq2 ia1 eM3
      have hS := hS.tr w.1
      have hB := w.2
      obtain ⟨hz, rfl⟩ := rN_some h
      exact ⟨hS, hB⟩
    · have h := (if_neg hc).symm.trans h
      obtain ⟨hz, rfl⟩ := rN_some h
      exact ⟨hS, hB⟩
theorem oX16_acknowledgement_L289 (fu : Nat)   (a0 : Nat) (a1 : Option Nat) (a2 : Int32)  (M : Mm) {out : Int32 × Mm} (hB : Bd RM TM M) (ra0 : RM a0) (ia1 : inR RM a1) (h : fX16_acknowledgement_L289 fu  a0 a1 a2 M = some out) : Sm RM M out.2 ∧ Bd RM TM out.2 := by
  unfold fX16_acknowledgement_L289 at h
  have hS : Sm RM M M := Sm.rf
  by_cases hc : a2 = 0
  · have h := (if_pos hc).symm.trans h
    have z := oX16_acknowledgement_L318 fu   a0 a1 a2 M hB ra0 ia1 h
    exact ⟨hS.tr z.1, z.2⟩
  · have h := (if_neg hc).symm.trans h
    obtain ⟨v1, ev1, h⟩ := bd h
    by_cases hc : v1 = (5 : Int32)
    · have h := (if_pos hc).symm.trans h
      obtain ⟨M2, eM2, h⟩ := bd h
      have w := pF_own hB (show 12 ≤ 12 ∧ 12 ≤ 16 from by decide) eM2
      have hS := hS.tr w.1
      have hB := w.2
      obtain ⟨v3, ev3, h⟩ := bd h
      obtain ⟨M4, eM4, h⟩ := bd h
      have w := pF_own hB (show 12 ≤ 12 ∧ 12 ≤ 16 from by decide) eM4
      have hS := hS.tr w.1
      have hB := w.2
      obtain ⟨hz, rfl⟩ := rN_some h
      exact ⟨hS, hB⟩
    · have h := (if_neg hc).symm.trans h
      have z := oX16_acknowledgement_L318 fu   a0 a1 a2 M hB ra0 ia1 h
      exact ⟨hS.tr z.1, z.2⟩
theorem oX16_acknowledgement_L260 (fu : Nat)   (a0 : Nat) (a1 : Option Nat) (s0 : Int32) (M : Mm) {out : Int32 × Mm} (hB : Bd RM TM M) (ra0 : RM a0) (ia1 : inR RM a1) (h : fX16_acknowledgement_L260 fu  a0 a1 s0 M = some out) : Sm RM M out.2 ∧ Bd RM TM out.2 := by
  unfold fX16_acknowledgement_L260 at h
  have hS : Sm RM M M := Sm.rf
  by_cases hc : s0 = 0
  · have h := (if_pos hc).symm.trans h
    have z := oX16_acknowledgement_L289 fu   a0 a1 s0 M hB ra0 ia1 h
    exact ⟨hS.tr z.1, z.2⟩
  · have h := (if_neg hc).symm.trans h
    obtain ⟨v1, ev1, h⟩ := bd h
    by_cases hc : v1 = (3 : Int32)
    · have h := (if_pos hc).symm.trans h
      obtain ⟨M2, eM2, h⟩ := bd h
      have w := pF_own hB (show 12 ≤ 12 ∧ 12 ≤ 16 from by decide) eM2
      have hS := hS.tr w.1
      have hB := w.2
      obtain ⟨v3, ev3, h⟩ := bd h
      obtain ⟨M4, eM4, h⟩ := bd h
      have w := pF_own hB (show 12 ≤ 12 ∧ 12 ≤ 16 from by decide) eM4
      have hS := hS.tr w.1
      have hB := w.2
      obtain ⟨hz, rfl⟩ := rN_some h
      exact ⟨hS, hB⟩
    · have h := (if_neg hc).symm.trans h
      have z := oX16_acknowledgement_L289 fu   a0 a1 s0 M hB ra0 ia1 h
      exact ⟨hS.tr z.1, z.2⟩
theorem oX16_acknowledgement_L259 (fu : Nat)   (a0 : Nat) (a1 : Option Nat)  (M : Mm) {out : Int32 × Mm} (hB : Bd RM TM M) (ra0 : RM a0) (ia1 : inR RM a1) (h : fX16_acknowledgement_L259 fu  a0 a1 M = some out) : Sm RM M out.2 ∧ Bd RM TM out.2 := by
  unfold fX16_acknowledgement_L259 at h
  have hS : Sm RM M M := Sm.rf
  have z := oX16_acknowledgement_L260 fu   a0 a1 (0 : Int32) M hB ra0 ia1 h
  exact ⟨hS.tr z.1, z.2⟩
theorem oX16_acknowledgement_L235 (fu : Nat)   (a0 : Nat) (a1 : Option Nat)  (M : Mm) {out : Int32 × Mm} (hB : Bd RM TM M) (ra0 : RM a0) (ia1 : inR RM a1) (h : fX16_acknowledgement_L235 fu  a0 a1 M = some out) : Sm RM M out.2 ∧ Bd RM TM out.2 := by
  unfold fX16_acknowledgement_L235 at h
  have hS : Sm RM M M := Sm.rf
  obtain ⟨v1, ev1, h⟩ := bd h
  by_cases hc : v1 = 0
  · have h := (if_pos hc).symm.trans h
    have z := oX16_acknowledgement_L259 fu   a0 a1 M hB ra0 ia1 h
    exact ⟨hS.tr z.1, z.2⟩
  · have h := (if_neg hc).symm.trans h
    obtain ⟨v2, ev2, h⟩ := bd h
    obtain ⟨q3, eq3, h⟩ := bd h
    have rq3 := rc_in hB (show 12 ≤ 12 ∧ 12 ≤ 16 from by decide) eq3
    obtain ⟨v5, M4, eM4, h⟩ := b2d h
    have w := oX12_behind fu q3  M hB rq3 eM4
    have hS := hS.tr w.1
    have hB := w.2
    by_cases hc : v2 = (v5 + (1 : Int32))
    · have h := (if_pos hc).symm.trans h
      have z := oX16_acknowledgement_L260 fu   a0 a1 (1 : Int32) M4 hB ra0 ia1 h
      exact ⟨hS.tr z.1, z.2⟩
    · have h := (if_neg hc).symm.trans h
      have z := oX16_acknowledgement_L259 fu   a0 a1 M4 hB ra0 ia1 h
      exact ⟨hS.tr z.1, z.2⟩
theorem oX16_acknowledgement_L209 (fu : Nat)   (a0 : Nat) (a1 : Option Nat)  (M : Mm) {out : Int32 × Mm} (hB : Bd RM TM M) (ra0 : RM a0) (ia1 : inR RM a1) (h : fX16_acknowledgement_L209 fu  a0 a1 M = some out) : Sm RM M out.2 ∧ Bd RM TM out.2 := by
  unfold fX16_acknowledgement_L209 at h
  have hS : Sm RM M M := Sm.rf
  obtain ⟨v1, ev1, h⟩ := bd h
  obtain ⟨v2, ev2, h⟩ := bd h
  obtain ⟨v4, M3, eM3, h⟩ := b2d h
  have w := oX16_before fu  v1 v2 M hB  eM3
  have hS := hS.tr w.1
  have hB := w.2
  by_cases hc : v4 = 0
  · have h := (if_pos hc).symm.trans h
    obtain ⟨v5, ev5, h⟩ := bd h
    by_cases hc : v5 = 0
    · have h := (if_pos hc).symm.trans h
      obtain ⟨M6, eM6, h⟩ := bd h
      have w := pF_own hB (show 12 ≤ 12 ∧ 12 ≤ 16 from by decide) eM6
      have hS := hS.tr w.1
      have hB := w.2
      have z := oX16_acknowledgement_L235 fu   a0 a1 M6 hB ra0 ia1 h
      exact ⟨hS.tr z.1, z.2⟩
    · have h := (if_neg hc).symm.trans h
      have z := oX16_acknowledgement_L235 fu   a0 a1 M3 hB ra0 ia1 h
      exact ⟨hS.tr z.1, z.2⟩
  · have h := (if_neg hc).symm.trans h
    have z := oX16_acknowledgement_L235 fu   a0 a1 M3 hB ra0 ia1 h
    exact ⟨hS.tr z.1, z.2⟩
theorem oX16_acknowledgement_L204 (fu : Nat)   (a0 : Nat) (a1 : Option Nat)  (M : Mm) {out : Int32 × Mm} (hB : Bd RM TM M) (ra0 : RM a0) (ia1 : inR RM a1) (h : fX16_acknowledgement_L204 fu  a0 a1 M = some out) : Sm RM M out.2 ∧ Bd RM TM out.2 := by
  unfold fX16_acknowledgement_L204 at h
  have hS : Sm RM M M := Sm.rf
  obtain ⟨q1, eq1, h⟩ := bd h
  have rq1 := rc_in hB (show 12 ≤ 16 ∧ 16 ≤ 16 from by decide) eq1
  obtain ⟨M2, eM2, h⟩ := bd h
  have w := oX16_takeWindow fu q1 a1 M hB rq1 ia1 eM2
  have hS := hS.tr w.1
  have hB := w.2
  have z := oX16_acknowledgement_L209 fu   a0 a1 M2 hB ra0 ia1 h
  exact ⟨hS.tr z.1, z.2⟩
theorem oX16_acknowledgement_L151 (fu : Nat)   (a0 : Nat) (a1 : Option Nat)  (M : Mm) {out : Int32 × Mm} (hB : Bd RM TM M) (ra0 : RM a0) (ia1 : inR RM a1) (h : fX16_acknowledgement_L151 fu  a0 a1 M = some out) : Sm RM M out.2 ∧ Bd RM TM out.2 := by
  unfold fX16_acknowledgement_L151 at h
  have hS : Sm RM M M := Sm.rf
  obtain ⟨v1, ev1, h⟩ := bd h
  obtain ⟨v2, ev2, h⟩ := bd h
  obtain ⟨v4, M3, eM3, h⟩ := b2d h
  have w := oX16_before fu  v1 v2 M hB  eM3
  have hS := hS.tr w.1
  have hB := w.2
  by_cases hc : v4 = 0
  · have h := (if_pos hc).symm.trans h
    obtain ⟨v5, ev5, h⟩ := bd h
    obtain ⟨v6, ev6, h⟩ := bd h
    obtain ⟨v8, M7, eM7, h⟩ := b2d h
    have w := oX16_before fu  v5 v6 M3 hB  eM7
    have hS := hS.tr w.1
    have hB := w.2
    by_cases hc : v8 = 0
    · have h := (if_pos hc).symm.trans h
      obtain ⟨v9, ev9, h⟩ := bd h
      obtain ⟨v10, ev10, h⟩ := bd h
      by_cases hc : v9 = v10
      · have h := (if_pos hc).symm.trans h
        obtain ⟨v11, ev11, h⟩ := bd h
        obtain ⟨v12, ev12, h⟩ := bd h
        obtain ⟨v14, M13, eM13, h⟩ := b2d h
        have w := oX16_before fu  v11 v12 M7 hB  eM13
        have hS := hS.tr w.1
        have hB := w.2
        by_cases hc : v14 = 0
        · have h := (if_pos hc).symm.trans h
          have z := oX16_acknowledgement_L204 fu   a0 a1 M13 hB ra0 ia1 h
          exact ⟨hS.tr z.1, z.2⟩
        · have h := (if_neg hc).symm.trans h
          have z := oX16_acknowledgement_L209 fu   a0 a1 M13 hB ra0 ia1 h
          exact ⟨hS.tr z.1, z.2⟩
      · have h := (if_neg hc).symm.trans h
        have z := oX16_acknowledgement_L209 fu   a0 a1 M7 hB ra0 ia1 h
        exact ⟨hS.tr z.1, z.2⟩
    · have h := (if_neg hc).symm.trans h
      have z := oX16_acknowledgement_L204 fu   a0 a1 M7 hB ra0 ia1 h
      exact ⟨hS.tr z.1, z.2⟩
  · have h := (if_neg hc).symm.trans h
    have z := oX16_acknowledgement_L209 fu   a0 a1 M3 hB ra0 ia1 h
    exact ⟨hS.tr z.1, z.2⟩
theorem oX16_acknowledgement (fu : Nat)   (a0 : Nat) (a1 : Option Nat)  (M : Mm) {out : Int32 × Mm} (hB : Bd RM TM M) (ra0 : RM a0) (ia1 : inR RM a1) (h : fX16_acknowledgement fu  a0 a1 M = some out) : Sm RM M out.2 ∧ Bd RM TM out.2 := by
  unfold fX16_acknowledgement at h
  have hS : Sm RM M M := Sm.rf
  obtain ⟨v1, ev1, h⟩ := bd h
  by_cases hc : v1 = (1 : Int32)
  · have h := (if_pos hc).symm.trans h
    obtain ⟨v27, ev27, h⟩ := bd h
    obtain ⟨v28, ev28, h⟩ := bd h
    by_cases hc : v27 = (v28 + (1 : Int32))
    · have h := (if_pos hc).symm.trans h
      obtain ⟨q29, eq29, h⟩ := bd h
      have rq29 := rc_in hB (show 12 ≤ 16 ∧ 16 ≤ 16 from by decide) eq29
      obtain ⟨M30, eM30, h⟩ := bd h
      have w := oX16_fresh fu q29 a1 M hB rq29 ia1 eM30
      have hS := hS.tr w.1
      have hB := w.2
      obtain ⟨M31, eM31, h⟩ := bd h
      have w := pF_own hB (show 12 ≤ 12 ∧ 12 ≤ 16 from by decide) eM31
      have hS := hS.tr w.1
      have hB := w.2
      obtain ⟨v32, ev32, h⟩ := bd h
      obtain ⟨M33, eM33, h⟩ := bd h
      have w := pF_own hB (show 12 ≤ 12 ∧ 12 ≤ 16 from by decide) eM33
      have hS := hS.tr w.1
      have hB := w.2
      obtain ⟨v34, ev34, h⟩ := bd h
      obtain ⟨M35, eM35, h⟩ := bd h
      have w := pF_own hB (show 12 ≤ 12 ∧ 12 ≤ 16 from by decide) eM35
      have hS := hS.tr w.1
      have hB := w.2
      obtain ⟨q36, eq36, h⟩ := bd h
      have rq36 := rc_in hB (show 12 ≤ 16 ∧ 16 ≤ 16 from by decide) eq36
      obtain ⟨M37, eM37, h⟩ := bd h
      have w := oX16_takeWindow fu q36 a1 M35 hB rq36 ia1 eM37
      have hS := hS.tr w.1
      have hB := w.2
      obtain ⟨hz, rfl⟩ := rN_some h
      exact ⟨hS, hB⟩
    · have h := (if_neg hc).symm.trans h
      obtain ⟨q38, eq38, h⟩ := bd h
      have rq38 := rc_in hB (show 12 ≤ 16 ∧ 16 ≤ 16 from by decide) eq38
      obtain ⟨M39, eM39, h⟩ := bd h
      have w := oX16_reset fu q38  M hB rq38 eM39
      have hS := hS.tr w.1
      have hB := w.2
      obtain ⟨hz, rfl⟩ := rN_some h
      exact ⟨hS, hB⟩
  · have h := (if_neg hc).symm.trans h
    obtain ⟨v2, ev2, h⟩ := bd h
    obtain ⟨v3, ev3, h⟩ := bd h
    obtain ⟨v5, M4, eM4, h⟩ := b2d h
    have w := oX16_isBehind fu  v2 v3 M hB  eM4
    have hS := hS.tr w.1
    have hB := w.2
    by_cases hc : v5 = 0
    · have h := (if_pos hc).symm.trans h
      obtain ⟨v6, ev6, h⟩ := bd h
      obtain ⟨v7, ev7, h⟩ := bd h
      obtain ⟨v9, M8, eM8, h⟩ := b2d h
      have w := oX16_isBehind fu  v6 v7 M4 hB  eM8
      have hS := hS.tr w.1
      have hB := w.2
      by_cases hc : v9 = 0
      · have h := (if_pos hc).symm.trans h
        obtain ⟨v10, ev10, h⟩ := bd h
        obtain ⟨v11, ev11, h⟩ := bd h
        by_cases hc : v10 = v11
        · have h := (if_pos hc).symm.trans h
          obtain ⟨q12, eq12, h⟩ := bd h
          have rq12 := rc_in hB (show 12 ≤ 16 ∧ 16 ≤ 16 from by decide) eq12
          obtain ⟨v14, M13, eM13, h⟩ := b2d h
          have w := oX16_extent fu q12  M8 hB rq12 eM13
          have hS := hS.tr w.1
          have hB := w.2
          by_cases hc : v14 = 0
          · have h := (if_pos hc).symm.trans h
            obtain ⟨v15, ev15, h⟩ := bd h
            obtain ⟨v16, ev16, h⟩ := bd h
            by_cases hc : v15 = v16
            · have h := (if_pos hc).symm.trans h
              obtain ⟨v17, ev17, h⟩ := bd h
              obtain ⟨v18, ev18, h⟩ := bd h
              obtain ⟨v20, M19, eM19, h⟩ := b2d h
              have w := oX16_before fu  v17 v18 M13 hB  eM19
              have hS := hS.tr w.1
              have hB := w.2
              by_cases hc : v20 = 0
              · have h := (if_pos hc).symm.trans h
                have z := oX16_acknowledgement_L151 fu   a0 a1 M19 hB ra0 ia1 h
                exact ⟨hS.tr z.1, z.2⟩
              · have h := (if_neg hc).symm.trans h
                obtain ⟨q21, eq21, h⟩ := bd h
                have rq21 := rc_in hB (show 12 ≤ 16 ∧ 16 ≤ 16 from by decide) eq21
                obtain ⟨M22, eM22, h⟩ := bd h
                have w := oX16_duplicate fu q21 a1 M19 hB rq21 ia1 eM22
                have hS := hS.tr w.1
                have hB := w.2
                have z := oX16_acknowledgement_L151 fu   a0 a1 M22 hB ra0 ia1 h
                exact ⟨hS.tr z.1, z.2⟩
            · have h := (if_neg hc).symm.trans h
              have z := oX16_acknowledgement_L151 fu   a0 a1 M13 hB ra0 ia1 h
              exact ⟨hS.tr z.1, z.2⟩
          · have h := (if_neg hc).symm.trans h
            have z := oX16_acknowledgement_L151 fu   a0 a1 M13 hB ra0 ia1 h
            exact ⟨hS.tr z.1, z.2⟩
        · have h := (if_neg hc).symm.trans h
          have z := oX16_acknowledgement_L151 fu   a0 a1 M8 hB ra0 ia1 h
          exact ⟨hS.tr z.1, z.2⟩
      · have h := (if_neg hc).symm.trans h
        obtain ⟨q23, eq23, h⟩ := bd h
        have rq23 := rc_in hB (show 12 ≤ 16 ∧ 16 ≤ 16 from by decide) eq23
        obtain ⟨M24, eM24, h⟩ := bd h
        have w := oX16_fresh fu q23 a1 M8 hB rq23 ia1 eM24
        have hS := hS.tr w.1
        have hB := w.2
        have z := oX16_acknowledgement_L151 fu   a0 a1 M24 hB ra0 ia1 h
        exact ⟨hS.tr z.1, z.2⟩
    · have h := (if_neg hc).symm.trans h
      obtain ⟨q25, eq25, h⟩ := bd h
      have rq25 := rc_in hB (show 12 ≤ 16 ∧ 16 ≤ 16 from by decide) eq25
      obtain ⟨M26, eM26, h⟩ := bd h
      have w := oX16_acknowledge fu q25 a1 M4 hB rq25 ia1 eM26
      have hS := hS.tr w.1
      have hB := w.2
      obtain ⟨hz, rfl⟩ := rN_some h
      exact ⟨hS, hB⟩
theorem oX16_takesData (fu : Nat)   (a0 : Option Nat)  (M : Mm) {out : Int32 × Mm} (hB : Bd RM TM M) (ia0 : inR RM a0) (h : fX16_takesData fu  a0 M = some out) : Sm RM M out.2 ∧ Bd RM TM out.2 := by
  unfold fX16_takesData at h
  have hS : Sm RM M M := Sm.rf
  obtain ⟨v1, ev1, h⟩ := bd h
  by_cases hc : v1 = (2 : Int32)
  · have h := (if_pos hc).symm.trans h
    obtain ⟨hz, rfl⟩ := rN_some h
    exact ⟨hS, hB⟩
  · have h := (if_neg hc).symm.trans h
    obtain ⟨v2, ev2, h⟩ := bd h
    by_cases hc : v2 = (3 : Int32)
    · have h := (if_pos hc).symm.trans h
      obtain ⟨hz, rfl⟩ := rN_some h
      exact ⟨hS, hB⟩
    · have h := (if_neg hc).symm.trans h
      obtain ⟨v3, ev3, h⟩ := bd h
      by_cases hc : v3 = (4 : Int32)
      · have h := (if_pos hc).symm.trans h
        obtain ⟨hz, rfl⟩ := rN_some h
        exact ⟨hS, hB⟩
      · have h := (if_neg hc).symm.trans h
        obtain ⟨hz, rfl⟩ := rN_some h
        exact ⟨hS, hB⟩
theorem oX16_arrived_L323 (fu : Nat)   (a0 : Nat) (a1 : Option Nat) (s0 : Option Nat) (s1 : Int32) (M : Mm) {out : Mm} (hB : Bd RM TM M) (ra0 : RM a0) (ia1 : inR RM a1) (is0 : inR RM s0) (h : fX16_arrived_L323 fu  a0 a1 s0 s1 M = some out) : Sm RM M out ∧ Bd RM TM out := by
  unfold fX16_arrived_L323 at h
  have hS : Sm RM M M := Sm.rf
  obtain ⟨M1, eM1, h⟩ := bd h
  have w := pF_own hB (show 12 ≤ 12 ∧ 12 ≤ 16 from by decide) eM1
  have hS := hS.tr w.1
  have hB := w.2
  obtain ⟨v2, ev2, h⟩ := bd h
  obtain ⟨M3, eM3, h⟩ := bd h
  have w := pF_own hB (show 12 ≤ 12 ∧ 12 ≤ 16 from by decide) eM3
  have hS := hS.tr w.1
  have hB := w.2
  obtain rfl := Option.some.inj h
  exact ⟨hS, hB⟩
theorem oX16_arrived_L246 (fu : Nat)   (a0 : Nat) (a1 : Option Nat)  (M : Mm) {out : Mm} (hB : Bd RM TM M) (ra0 : RM a0) (ia1 : inR RM a1) (h : fX16_arrived_L246 fu  a0 a1 M = some out) : Sm RM M out ∧ Bd RM TM out := by
  unfold fX16_arrived_L246 at h
  have hS : Sm RM M M := Sm.rf
  obtain ⟨v1, ev1, h⟩ := bd h
  by_cases hc : v1 = 0
  · have h := (if_pos hc).symm.trans h
    obtain rfl := Option.some.inj h
    exact ⟨hS, hB⟩
  · have h := (if_neg hc).symm.trans h
    obtain ⟨v2, ev2, h⟩ := bd h
    by_cases hc : v2 = 0
    · have h := (if_pos hc).symm.trans h
      obtain ⟨v3, ev3, h⟩ := bd h
      obtain ⟨v4, ev4, h⟩ := bd h
      by_cases hc : v3 = v4
      · have h := (if_pos hc).symm.trans h
        obtain ⟨M5, eM5, h⟩ := bd h
        have w := pZ_own hB (show 12 ≤ 12 ∧ 12 ≤ 16 from by decide) eM5
        have hS := hS.tr w.1
        have hB := w.2
        obtain ⟨v6, ev6, h⟩ := bd h
        obtain ⟨M7, eM7, h⟩ := bd h
        have w := pF_own hB (show 12 ≤ 12 ∧ 12 ≤ 16 from by decide) eM7
        have hS := hS.tr w.1
        have hB := w.2
        obtain ⟨M8, eM8, h⟩ := bd h
        have w := pZ_own hB (show 12 ≤ 12 ∧ 12 ≤ 16 from by decide) eM8
        have hS := hS.tr w.1
        have hB := w.2
        obtain ⟨v9, ev9, h⟩ := bd h
        by_cases hc : v9 = (2 : Int32)
        · have h := (if_pos hc).symm.trans h
          obtain ⟨M11, eM11, h⟩ := bd h
          have w := pF_own hB (show 12 ≤ 12 ∧ 12 ≤ 16 from by decide) eM11
          have hS := hS.tr w.1
          have hB := w.2
          obtain rfl := Option.some.inj h
          exact ⟨hS, hB⟩
        · have h := (if_neg hc).symm.trans h
          obtain ⟨v10, ev10, h⟩ := bd h
          by_cases hc : v10 = (3 : Int32)
          · have h := (if_pos hc).symm.trans h
            have z := oX16_arrived_L323 fu   a0 a1 a1 (5 : Int32) M8 hB ra0 ia1 ia1 h
            exact ⟨hS.tr z.1, z.2⟩
          · have h := (if_neg hc).symm.trans h
            have z := oX16_arrived_L323 fu   a0 a1 a1 (6 : Int32) M8 hB ra0 ia1 ia1 h
            exact ⟨hS.tr z.1, z.2⟩
      · have h := (if_neg hc).symm.trans h
        obtain rfl := Option.some.inj h
        exact ⟨hS, hB⟩
    · have h := (if_neg hc).symm.trans h
      obtain rfl := Option.some.inj h
      exact ⟨hS, hB⟩
theorem oX16_arrived_L233 (fu : Nat)   (a0 : Nat) (a1 : Option Nat)  (M : Mm) {out : Mm} (hB : Bd RM TM M) (ra0 : RM a0) (ia1 : inR RM a1) (h : fX16_arrived_L233 fu  a0 a1 M = some out) : Sm RM M out ∧ Bd RM TM out := by
  unfold fX16_arrived_L233 at h
  have hS : Sm RM M M := Sm.rf
  obtain ⟨q1, eq1, h⟩ := bd h
  have rq1 := rc_in hB (show 12 ≤ 16 ∧ 16 ≤ 16 from by decide) eq1
  obtain ⟨v3, M2, eM2, h⟩ := b2d h
  have w := oX16_is fu q1 (1 : Int32) M hB rq1 eM2
  have hS := hS.tr w.1
  have hB := w.2
  by_cases hc : v3 = 0
  · have h := (if_pos hc).symm.trans h
    have z := oX16_arrived_L246 fu   a0 a1 M2 hB ra0 ia1 h
    exact ⟨hS.tr z.1, z.2⟩
  · have h := (if_neg hc).symm.trans h
    obtain ⟨M4, eM4, h⟩ := bd h
    have w := pZ_own hB (show 12 ≤ 12 ∧ 12 ≤ 16 from by decide) eM4
    have hS := hS.tr w.1
    have hB := w.2
    have z := oX16_arrived_L246 fu   a0 a1 M4 hB ra0 ia1 h
    exact ⟨hS.tr z.1, z.2⟩
theorem oX16_arrived_L176 (fu : Nat)   (a0 : Nat) (a1 : Option Nat) (a2 : Int32) (a3 : Int32)  (M : Mm) {out : Mm} (hB : Bd RM TM M) (ra0 : RM a0) (ia1 : inR RM a1) (h : fX16_arrived_L176 fu  a0 a1 a2 a3 M = some out) : Sm RM M out ∧ Bd RM TM out := by
  unfold fX16_arrived_L176 at h
  have hS : Sm RM M M := Sm.rf
  obtain ⟨q1, eq1, h⟩ := bd h
  have rq1 := rc_in hB (show 12 ≤ 16 ∧ 16 ≤ 16 from by decide) eq1
  obtain ⟨v3, M2, eM2, h⟩ := b2d h
  have w := oX16_is fu q1 (1 : Int32) M hB rq1 eM2
  have hS := hS.tr w.1
  have hB := w.2
  by_cases hc : v3 = 0
  · have h := (if_pos hc).symm.trans h
    have z := oX16_arrived_L233 fu   a0 a1 M2 hB ra0 ia1 h
    exact ⟨hS.tr z.1, z.2⟩
  · have h := (if_neg hc).symm.trans h
    obtain ⟨v4, ev4, h⟩ := bd h
    by_cases hc : v4 = 0
    · have h := (if_pos hc).symm.trans h
      obtain ⟨v5, ev5, h⟩ := bd h
      obtain ⟨v6, ev6, h⟩ := bd h
      obtain ⟨v8, M7, eM7, h⟩ := b2d h
      have w := oX16_before fu  (v5 + v6) a3 M2 hB  eM7
      have hS := hS.tr w.1
      have hB := w.2
      by_cases hc : v8 = 0
      · have h := (if_pos hc).symm.trans h
        obtain ⟨v10, M9, eM9, h⟩ := b2d h
        have w := oX16_before fu  (v5 + v6) (a3 + a2) M7 hB  eM9
        have hS := hS.tr w.1
        have hB := w.2
        by_cases hc : v10 = 0
        · have h := (if_pos hc).symm.trans h
          have z := oX16_arrived_L233 fu   a0 a1 M9 hB ra0 ia1 h
          exact ⟨hS.tr z.1, z.2⟩
        · have h := (if_neg hc).symm.trans h
          obtain ⟨M11, eM11, h⟩ := bd h
          have w := pZ_own hB (show 12 ≤ 12 ∧ 12 ≤ 16 from by decide) eM11
          have hS := hS.tr w.1
          have hB := w.2
          obtain ⟨M12, eM12, h⟩ := bd h
          have w := pF_own hB (show 12 ≤ 12 ∧ 12 ≤ 16 from by decide) eM12
          have hS := hS.tr w.1
          have hB := w.2
          have z := oX16_arrived_L233 fu   a0 a1 M12 hB ra0 ia1 h
          exact ⟨hS.tr z.1, z.2⟩
      · have h := (if_neg hc).symm.trans h
        have z := oX16_arrived_L233 fu   a0 a1 M7 hB ra0 ia1 h
        exact ⟨hS.tr z.1, z.2⟩
    · have h := (if_neg hc).symm.trans h
      have z := oX16_arrived_L233 fu   a0 a1 M2 hB ra0 ia1 h
      exact ⟨hS.tr z.1, z.2⟩
theorem oX16_arrived_L131 (fu : Nat) {out : Mm}   : ∀ (n : Nat) (a0 : Nat) (a1 : Option Nat) (a2 : Int32) (a3 : Int32)  (M : Mm), Bd RM TM M → RM a0 → inR RM a1 → fX16_arrived_L131 fu  n a0 a1 a2 a3 M = some out → Sm RM M out ∧ Bd RM TM out := by
  intro n
  induction n with
  | zero =>
    intro a0 a1 a2 a3 M hB ra0 ia1 h
    have h : (none : Option (Mm)) = some out := h
    cases h
  | succ n ih =>
    intro a0 a1 a2 a3 M hB ra0 ia1 h
    rw [fX16_arrived_L131] at h
    have hS : Sm RM M M := Sm.rf
    obtain ⟨v1, ev1, h⟩ := bd h
    obtain ⟨v2, ev2, h⟩ := bd h
    by_cases hc : (4096 : Int32) ≤ (v1 - v2)
    · have h := (if_pos hc).symm.trans h
      have z := oX16_arrived_L176 fu   a0 a1 a2 a3 M hB ra0 ia1 h
      exact ⟨hS.tr z.1, z.2⟩
    · have h := (if_neg hc).symm.trans h
      obtain ⟨v3, ev3, h⟩ := bd h
      have iv3 := gR_in hB (show 12 ≤ 12 ∧ 12 ≤ 16 from by decide) ev3
      obtain ⟨v4, ev4, h⟩ := bd h
      obtain ⟨v5, ev5, h⟩ := bd h
      obtain ⟨v6, ev6, h⟩ := bd h
      by_cases hc : v6 = 0
      · have h := (if_pos hc).symm.trans h
        have z := oX16_arrived_L176 fu   a0 a1 a2 a3 M hB ra0 ia1 h
        exact ⟨hS.tr z.1, z.2⟩
      · have h := (if_neg hc).symm.trans h
        obtain ⟨v7, ev7, h⟩ := bd h
        obtain ⟨M8, eM8, h⟩ := bd h
        have w := pF_own hB (show 12 ≤ 12 ∧ 12 ≤ 16 from by decide) eM8
        have hS := hS.tr w.1
        have hB := w.2
        have z := ih a0 a1 a2 a3 M8 hB ra0 ia1 h
        exact ⟨hS.tr z.1, z.2⟩
theorem oX16_arrived_L125 (fu : Nat) {out : Mm} (k41 : Nat → Option Nat → Int32 → Int32 → Int32 → Mm → Option (Mm)) (hk41 : ∀ (b0 : Nat) (b1 : Option Nat) (b2 : Int32) (b3 : Int32) (b4 : Int32)  (M : Mm), Bd RM TM M → RM b0 → inR RM b1 → k41 b0 b1 b2 b3 b4 M = some out → Sm RM M out ∧ Bd RM TM out) (a0 : Nat) (a1 : Option Nat) (a2 : Int32) (a3 : Int32) (a4 : Int32)  (M : Mm) (hB : Bd RM TM M) (ra0 : RM a0) (ia1 : inR RM a1) (h : fX16_arrived_L125 fu k41 a0 a1 a2 a3 a4 M = some out) : Sm RM M out ∧ Bd RM TM out := by
  unfold fX16_arrived_L125 at h
  have hS : Sm RM M M := Sm.rf
  have z := hk41 a0 a1 a2 a3 (a4 + (1 : Int32)) M hB ra0 ia1 h
  exact ⟨hS.tr z.1, z.2⟩
theorem oX16_arrived_L41 (fu : Nat) {out : Mm}   : ∀ (n : Nat) (a0 : Nat) (a1 : Option Nat) (a2 : Int32) (a3 : Int32) (a4 : Int32)  (M : Mm), Bd RM TM M → RM a0 → inR RM a1 → fX16_arrived_L41 fu  n a0 a1 a2 a3 a4 M = some out → Sm RM M out ∧ Bd RM TM out := by
  intro n
  induction n with
  | zero =>
    intro a0 a1 a2 a3 a4 M hB ra0 ia1 h
    have h : (none : Option (Mm)) = some out := h
    cases h
  | succ n ih =>
    intro a0 a1 a2 a3 a4 M hB ra0 ia1 h
    rw [fX16_arrived_L41] at h
    have hS : Sm RM M M := Sm.rf
    obtain ⟨v1, ev1, h⟩ := bd h
    by_cases hc : v1 ≤ a4
    · have h := (if_pos hc).symm.trans h
      have z := oX16_arrived_L131 fu   fu a0 a1 a2 a3 M hB ra0 ia1 h
      exact ⟨hS.tr z.1, z.2⟩
    · have h := (if_neg hc).symm.trans h
      obtain ⟨v2, ev2, h⟩ := bd h
      obtain ⟨v4, M3, eM3, h⟩ := b2d h
      have w := oX16_before fu  (v2 + a4) a3 M hB  eM3
      have hS := hS.tr w.1
      have hB := w.2
      by_cases hc : v4 = 0
      · have h := (if_pos hc).symm.trans h
        obtain ⟨v6, M5, eM5, h⟩ := b2d h
        have w := oX16_before fu  (v2 + a4) (a3 + a2) M3 hB  eM5
        have hS := hS.tr w.1
        have hB := w.2
        by_cases hc : v6 = 0
        · have h := (if_pos hc).symm.trans h
          have z := oX16_arrived_L125 fu (fun b0 b1 b2 b3 b4 M => fX16_arrived_L41 fu  n b0 b1 b2 b3 b4 M) ih a0 a1 a2 a3 a4 M5 hB ra0 ia1 h
          exact ⟨hS.tr z.1, z.2⟩
        · have h := (if_neg hc).symm.trans h
          obtain ⟨v7, ev7, h⟩ := bd h
          obtain ⟨v8, ev8, h⟩ := bd h
          have iv8 := gR_in hB (show 12 ≤ 12 ∧ 12 ≤ 16 from by decide) ev8
          obtain ⟨v9, ev9, h⟩ := bd h
          by_cases hc : v9 = 0
          · have h := (if_pos hc).symm.trans h
            obtain ⟨v10, ev10, h⟩ := bd h
            have iv10 := gR_in hB (show 12 ≤ 12 ∧ 12 ≤ 16 from by decide) ev10
            obtain ⟨M11, eM11, h⟩ := bd h
            have w := pA_own hB iv10 (by decide) eM11
            have hS := hS.tr w.1
            have hB := w.2
            obtain ⟨v12, ev12, h⟩ := bd h
            have iv12 := gR_in hB (show 12 ≤ 12 ∧ 12 ≤ 16 from by decide) ev12
            obtain ⟨v13, ev13, h⟩ := bd h
            have iv13 := gR_in hB (show 12 ≤ 16 ∧ 16 ≤ 16 from by decide) ev13
            obtain ⟨v14, ev14, h⟩ := bd h
            obtain ⟨v15, ev15, h⟩ := bd h
            obtain ⟨M16, eM16, h⟩ := bd h
            have w := pA_ownB hB iv12 eM16
            have hS := hS.tr w.1
            have hB := w.2
            have z := oX16_arrived_L125 fu (fun b0 b1 b2 b3 b4 M => fX16_arrived_L41 fu  n b0 b1 b2 b3 b4 M) ih a0 a1 a2 a3 a4 M16 hB ra0 ia1 h
            exact ⟨hS.tr z.1, z.2⟩
          · have h := (if_neg hc).symm.trans h
            have z := oX16_arrived_L125 fu (fun b0 b1 b2 b3 b4 M => fX16_arrived_L41 fu  n b0 b1 b2 b3 b4 M) ih a0 a1 a2 a3 a4 M5 hB ra0 ia1 h
            exact ⟨hS.tr z.1, z.2⟩
      · have h := (if_neg hc).symm.trans h
        have z := oX16_arrived_L125 fu (fun b0 b1 b2 b3 b4 M => fX16_arrived_L41 fu  n b0 b1 b2 b3 b4 M) ih a0 a1 a2 a3 a4 M3 hB ra0 ia1 h
        exact ⟨hS.tr z.1, z.2⟩
theorem oX16_arrived_L38 (fu : Nat)   (a0 : Nat) (a1 : Option Nat) (a2 : Int32) (a3 : Int32)  (M : Mm) {out : Mm} (hB : Bd RM TM M) (ra0 : RM a0) (ia1 : inR RM a1) (h : fX16_arrived_L38 fu  a0 a1 a2 a3 M = some out) : Sm RM M out ∧ Bd RM TM out := by
  unfold fX16_arrived_L38 at h
  have hS : Sm RM M M := Sm.rf
  have z := oX16_arrived_L41 fu   fu a0 a1 a2 a3 (0 : Int32) M hB ra0 ia1 h
  exact ⟨hS.tr z.1, z.2⟩
theorem oX16_arrived (fu : Nat)   (a0 : Nat) (a1 : Option Nat)  (M : Mm) {out : Mm} (hB : Bd RM TM M) (ra0 : RM a0) (ia1 : inR RM a1) (h : fX16_arrived fu  a0 a1 M = some out) : Sm RM M out ∧ Bd RM TM out := by
  unfold fX16_arrived at h
  have hS : Sm RM M M := Sm.rf
  obtain ⟨v2, M1, eM1, h⟩ := b2d h
  have w := oX16_takesData fu  a1 M hB ia1 eM1
  have hS := hS.tr w.1
  have hB := w.2
  by_cases hc : v2 = 0
  · have h := (if_pos hc).symm.trans h
    obtain rfl := Option.some.inj h
    exact ⟨hS, hB⟩
  · have h := (if_neg hc).symm.trans h
    obtain ⟨q3, eq3, h⟩ := bd h
    have rq3 := rc_in hB (show 12 ≤ 12 ∧ 12 ≤ 16 from by decide) eq3
    obtain ⟨v5, M4, eM4, h⟩ := b2d h
    have w := oX12_open fu q3  M1 hB rq3 eM4
    have hS := hS.tr w.1
    have hB := w.2
    obtain ⟨v6, ev6, h⟩ := bd h
    obtain ⟨v7, ev7, h⟩ := bd h
    by_cases hc : v7 ≤ 0
    · have h := (if_pos hc).symm.trans h
      have z := oX16_arrived_L38 fu   a0 a1 v5 v6 M4 hB ra0 ia1 h
      exact ⟨hS.tr z.1, z.2⟩
    · have h := (if_neg hc).symm.trans h
      obtain ⟨M8, eM8, h⟩ := bd h
      have w := pZ_own hB (show 12 ≤ 12 ∧ 12 ≤ 16 from by decide) eM8
      have hS := hS.tr w.1
      have hB := w.2
      obtain ⟨v9, ev9, h⟩ := bd h
      obtain ⟨M10, eM10, h⟩ := bd h
      have w := pF_own hB (show 12 ≤ 12 ∧ 12 ≤ 16 from by decide) eM10
      have hS := hS.tr w.1
      have hB := w.2
      have z := oX16_arrived_L38 fu   a0 a1 v5 v6 M10 hB ra0 ia1 h
      exact ⟨hS.tr z.1, z.2⟩
theorem oX16_take_L71 (fu : Nat) {out : Mm} (k2 : Option Nat → Int32 → Int32 → Mm → Option (Mm)) (hk2 : ∀ (b1 : Option Nat) (b2 : Int32) (b3 : Int32)  (M : Mm), Bd RM TM M → inR RM b1 → k2 b1 b2 b3 M = some out → Sm RM M out ∧ Bd RM TM out) (a1 : Option Nat) (a2 : Int32) (a3 : Int32)  (M : Mm) (hB : Bd RM TM M) (ia1 : inR RM a1) (h : fX16_take_L71 fu k2 a1 a2 a3 M = some out) : Sm RM M out ∧ Bd RM TM out := by
  unfold fX16_take_L71 at h
  have hS : Sm RM M M := Sm.rf
  have z := hk2 a1 a2 (a3 + (1 : Int32)) M hB ia1 h
  exact ⟨hS.tr z.1, z.2⟩
theorem oX16_take_L51 (fu : Nat) {out : Mm} (k2 : Option Nat → Int32 → Int32 → Mm → Option (Mm)) (hk2 : ∀ (b1 : Option Nat) (b2 : Int32) (b3 : Int32)  (M : Mm), Bd RM TM M → inR RM b1 → k2 b1 b2 b3 M = some out → Sm RM M out ∧ Bd RM TM out) (a1 : Option Nat) (a2 : Int32) (a3 : Int32) (a4 : Int32) (s0 : Option Nat) (s1 : Int32) (s2 : Int32) (M : Mm) (hB : Bd RM TM M) (ia1 : inR RM a1) (is0 : inR RM s0) (h : fX16_take_L51 fu k2 a1 a2 a3 a4 s0 s1 s2 M = some out) : Sm RM M out ∧ Bd RM TM out := by
  unfold fX16_take_L51 at h
  have hS : Sm RM M M := Sm.rf
  obtain ⟨M1, eM1, h⟩ := bd h
  have w := pA_own hB is0 (by decide) eM1
  have hS := hS.tr w.1
  have hB := w.2
  by_cases hc : a4 = 0
  · have h := (if_pos hc).symm.trans h
    have z := oX16_take_L71 fu k2 hk2 a1 a2 a3 M1 hB ia1 h
    exact ⟨hS.tr z.1, z.2⟩
  · have h := (if_neg hc).symm.trans h
    obtain ⟨v2, ev2, h⟩ := bd h
    have iv2 := gR_in hB (show 12 ≤ 12 ∧ 12 ≤ 16 from by decide) ev2
    obtain ⟨v3, ev3, h⟩ := bd h
    have iv3 := gR_in hB (show 12 ≤ 12 ∧ 12 ≤ 16 from by decide) ev3
    obtain ⟨v4, ev4, h⟩ := bd h
    obtain ⟨M5, eM5, h⟩ := bd h
    have w := pA_ownB hB iv2 eM5
    have hS := hS.tr w.1
    have hB := w.2
    have z := oX16_take_L71 fu k2 hk2 a1 a2 a3 M5 hB ia1 h
    exact ⟨hS.tr z.1, z.2⟩
theorem oX16_take_L50 (fu : Nat) {out : Mm} (k2 : Option Nat → Int32 → Int32 → Mm → Option (Mm)) (hk2 : ∀ (b1 : Option Nat) (b2 : Int32) (b3 : Int32)  (M : Mm), Bd RM TM M → inR RM b1 → k2 b1 b2 b3 M = some out → Sm RM M out ∧ Bd RM TM out) (a1 : Option Nat) (a2 : Int32) (a3 : Int32) (a4 : Int32) (s0 : Option Nat) (s1 : Int32) (M : Mm) (hB : Bd RM TM M) (ia1 : inR RM a1) (is0 : inR RM s0) (h : fX16_take_L50 fu k2 a1 a2 a3 a4 s0 s1 M = some out) : Sm RM M out ∧ Bd RM TM out := by
  unfold fX16_take_L50 at h
  have hS : Sm RM M M := Sm.rf
  have z := oX16_take_L51 fu k2 hk2 a1 a2 a3 a4 s0 s1 (0 : Int32) M hB ia1 is0 h
  exact ⟨hS.tr z.1, z.2⟩
theorem oX16_take_L23 (fu : Nat) {out : Mm} (k2 : Option Nat → Int32 → Int32 → Mm → Option (Mm)) (hk2 : ∀ (b1 : Option Nat) (b2 : Int32) (b3 : Int32)  (M : Mm), Bd RM TM M → inR RM b1 → k2 b1 b2 b3 M = some out → Sm RM M out ∧ Bd RM TM out) (a1 : Option Nat) (a2 : Int32) (a3 : Int32) (s0 : Int32) (M : Mm) (hB : Bd RM TM M) (ia1 : inR RM a1) (h : fX16_take_L23 fu k2 a1 a2 a3 s0 M = some out) : Sm RM M out ∧ Bd RM TM out := by
  unfold fX16_take_L23 at h
  have hS : Sm RM M M := Sm.rf
  obtain ⟨v1, ev1, h⟩ := bd h
  have iv1 := gR_in hB (show 12 ≤ 12 ∧ 12 ≤ 16 from by decide) ev1
  by_cases hc : s0 = 0
  · have h := (if_pos hc).symm.trans h
    have z := oX16_take_L50 fu k2 hk2 a1 a2 a3 s0 v1 a3 M hB ia1 iv1 h
    exact ⟨hS.tr z.1, z.2⟩
  · have h := (if_neg hc).symm.trans h
    obtain ⟨v2, ev2, h⟩ := bd h
    have iv2 := gR_in hB (show 12 ≤ 12 ∧ 12 ≤ 16 from by decide) ev2
    obtain ⟨v3, ev3, h⟩ := bd h
    by_cases hc : v3 = 0
    · have h := (if_pos hc).symm.trans h
      have z := oX16_take_L50 fu k2 hk2 a1 a2 a3 s0 v1 a3 M hB ia1 iv1 h
      exact ⟨hS.tr z.1, z.2⟩
    · have h := (if_neg hc).symm.trans h
      have z := oX16_take_L51 fu k2 hk2 a1 a2 a3 s0 v1 a3 (1 : Int32) M hB ia1 iv1 h
      exact ⟨hS.tr z.1, z.2⟩
theorem oX16_take_L2 (fu : Nat) {out : Mm}   : ∀ (n : Nat) (a1 : Option Nat) (a2 : Int32) (a3 : Int32)  (M : Mm), Bd RM TM M → inR RM a1 → fX16_take_L2 fu  n a1 a2 a3 M = some out → Sm RM M out ∧ Bd RM TM out := by
  intro n
  induction n with
  | zero =>
    intro a1 a2 a3 M hB ia1 h
    have h : (none : Option (Mm)) = some out := h
    cases h
  | succ n ih =>
    intro a1 a2 a3 M hB ia1 h
    rw [fX16_take_L2] at h
    have hS : Sm RM M M := Sm.rf
    by_cases hc : (4096 : Int32) ≤ a3
    · have h := (if_pos hc).symm.trans h
      obtain ⟨v1, ev1, h⟩ := bd h
      obtain ⟨M2, eM2, h⟩ := bd h
      have w := pF_own hB (show 12 ≤ 12 ∧ 12 ≤ 16 from by decide) eM2
      have hS := hS.tr w.1
      have hB := w.2
      obtain ⟨q3, eq3, h⟩ := bd h
      have rq3 := rc_in hB (show 12 ≤ 12 ∧ 12 ≤ 16 from by decide) eq3
      obtain ⟨v5, M4, eM4, h⟩ := b2d h
      have w := oX12_open fu q3  M2 hB rq3 eM4
      have hS := hS.tr w.1
      have hB := w.2
      obtain ⟨v6, ev6, h⟩ := bd h
      by_cases hc : (v5 - v6) < (2048 : Int32)
      · have h := (if_pos hc).symm.trans h
        obtain rfl := Option.some.inj h
        exact ⟨hS, hB⟩
      · have h := (if_neg hc).symm.trans h
        obtain ⟨M7, eM7, h⟩ := bd h
        have w := pZ_own hB (show 12 ≤ 12 ∧ 12 ≤ 16 from by decide) eM7
        have hS := hS.tr w.1
        have hB := w.2
        obtain rfl := Option.some.inj h
        exact ⟨hS, hB⟩
    · have h := (if_neg hc).symm.trans h
      by_cases hc : (4096 : Int32) ≤ (a3 + a2)
      · have h := (if_pos hc).symm.trans h
        have z := oX16_take_L23 fu (fun b1 b2 b3 M => fX16_take_L2 fu  n b1 b2 b3 M) ih a1 a2 a3 (0 : Int32) M hB ia1 h
        exact ⟨hS.tr z.1, z.2⟩
      · have h := (if_neg hc).symm.trans h
        have z := oX16_take_L23 fu (fun b1 b2 b3 M => fX16_take_L2 fu  n b1 b2 b3 M) ih a1 a2 a3 (1 : Int32) M hB ia1 h
        exact ⟨hS.tr z.1, z.2⟩
theorem oX16_take (fu : Nat)   (a0 : Nat) (a1 : Option Nat) (a2 : Int32)  (M : Mm) {out : Mm} (hB : Bd RM TM M) (ra0 : RM a0) (ia1 : inR RM a1) (h : fX16_take fu  a0 a1 a2 M = some out) : Sm RM M out ∧ Bd RM TM out := by
  unfold fX16_take at h
  have hS : Sm RM M M := Sm.rf
  have z := oX16_take_L2 fu   fu a1 a2 (0 : Int32) M hB ia1 h
  exact ⟨hS.tr z.1, z.2⟩
theorem oX16_byteAt (fu : Nat)   (a0 : Option Nat) (a1 : Int32)  (M : Mm) {out : Int32 × Mm} (hB : Bd RM TM M) (ia0 : inR RM a0) (h : fX16_byteAt fu  a0 a1 M = some out) : Sm RM M out.2 ∧ Bd RM TM out.2 := by
  unfold fX16_byteAt at h
  have hS : Sm RM M M := Sm.rf
  obtain ⟨q1, eq1, h⟩ := bd h
  have rq1 := rc_in hB (show 12 ≤ 12 ∧ 12 ≤ 16 from by decide) eq1
  obtain ⟨v3, M2, eM2, h⟩ := b2d h
  have w := oX12_held fu q1  M hB rq1 eM2
  have hS := hS.tr w.1
  have hB := w.2
  by_cases hc : v3 ≤ a1
  · have h := (if_pos hc).symm.trans h
    obtain rfl := Option.some.inj h
    exact ⟨hS, hB⟩
  · have h := (if_neg hc).symm.trans h
    obtain ⟨v4, ev4, h⟩ := bd h
    have iv4 := gR_in hB (show 12 ≤ 12 ∧ 12 ≤ 16 from by decide) ev4
    obtain ⟨v5, ev5, h⟩ := bd h
    obtain rfl := Option.some.inj h
    exact ⟨hS, hB⟩
theorem oX16_headBytes_L73 (fu : Nat) {out : Int32 × Mm} (k10 : Option Nat → Int32 → Int32 → Int32 → Mm → Option (Int32 × Mm)) (hk10 : ∀ (b1 : Option Nat) (b2 : Int32) (b3 : Int32) (b4 : Int32)  (M : Mm), Bd RM TM M → inR RM b1 → k10 b1 b2 b3 b4 M = some out → Sm RM M out.2 ∧ Bd RM TM out.2) (a1 : Option Nat) (a2 : Int32) (a3 : Int32) (a4 : Int32)  (M : Mm) (hB : Bd RM TM M) (ia1 : inR RM a1) (h : fX16_headBytes_L73 fu k10 a1 a2 a3 a4 M = some out) : Sm RM M out.2 ∧ Bd RM TM out.2 := by
  unfold fX16_headBytes_L73 at h
  have hS : Sm RM M M := Sm.rf
  have z := hk10 a1 a2 a3 (a4 + (1 : Int32)) M hB ia1 h
  exact ⟨hS.tr z.1, z.2⟩
theorem oX16_headBytes_L56 (fu : Nat) {out : Int32 × Mm} (k10 : Option Nat → Int32 → Int32 → Int32 → Mm → Option (Int32 × Mm)) (hk10 : ∀ (b1 : Option Nat) (b2 : Int32) (b3 : Int32) (b4 : Int32)  (M : Mm), Bd RM TM M → inR RM b1 → k10 b1 b2 b3 b4 M = some out → Sm RM M out.2 ∧ Bd RM TM out.2) (a1 : Option Nat) (a3 : Int32) (a4 : Int32) (s0 : Int32) (M : Mm) (hB : Bd RM TM M) (ia1 : inR RM a1) (h : fX16_headBytes_L56 fu k10 a1 a3 a4 s0 M = some out) : Sm RM M out.2 ∧ Bd RM TM out.2 := by
  unfold fX16_headBytes_L56 at h
  have hS : Sm RM M M := Sm.rf
  by_cases hc : s0 = 0
  · have h := (if_pos hc).symm.trans h
    have z := oX16_headBytes_L73 fu k10 hk10 a1 (a4 + (1 : Int32)) a3 a4 M hB ia1 h
    exact ⟨hS.tr z.1, z.2⟩
  · have h := (if_neg hc).symm.trans h
    obtain rfl := Option.some.inj h
    exact ⟨hS, hB⟩
theorem oX16_headBytes_L51 (fu : Nat) {out : Int32 × Mm} (k10 : Option Nat → Int32 → Int32 → Int32 → Mm → Option (Int32 × Mm)) (hk10 : ∀ (b1 : Option Nat) (b2 : Int32) (b3 : Int32) (b4 : Int32)  (M : Mm), Bd RM TM M → inR RM b1 → k10 b1 b2 b3 b4 M = some out → Sm RM M out.2 ∧ Bd RM TM out.2) (a1 : Option Nat) (a3 : Int32) (a4 : Int32)  (M : Mm) (hB : Bd RM TM M) (ia1 : inR RM a1) (h : fX16_headBytes_L51 fu k10 a1 a3 a4 M = some out) : Sm RM M out.2 ∧ Bd RM TM out.2 := by
  unfold fX16_headBytes_L51 at h
  have hS : Sm RM M M := Sm.rf
  have z := oX16_headBytes_L56 fu k10 hk10 a1 a3 a4 (1 : Int32) M hB ia1 h
  exact ⟨hS.tr z.1, z.2⟩
theorem oX16_headBytes_L55 (fu : Nat) {out : Int32 × Mm} (k10 : Option Nat → Int32 → Int32 → Int32 → Mm → Option (Int32 × Mm)) (hk10 : ∀ (b1 : Option Nat) (b2 : Int32) (b3 : Int32) (b4 : Int32)  (M : Mm), Bd RM TM M → inR RM b1 → k10 b1 b2 b3 b4 M = some out → Sm RM M out.2 ∧ Bd RM TM out.2) (a1 : Option Nat) (a3 : Int32) (a4 : Int32)  (M : Mm) (hB : Bd RM TM M) (ia1 : inR RM a1) (h : fX16_headBytes_L55 fu k10 a1 a3 a4 M = some out) : Sm RM M out.2 ∧ Bd RM TM out.2 := by
  unfold fX16_headBytes_L55 at h
  have hS : Sm RM M M := Sm.rf
  have z := oX16_headBytes_L56 fu k10 hk10 a1 a3 a4 (0 : Int32) M hB ia1 h
  exact ⟨hS.tr z.1, z.2⟩
theorem oX16_headBytes_L10 (fu : Nat) {out : Int32 × Mm}   : ∀ (n : Nat) (a1 : Option Nat) (a2 : Int32) (a3 : Int32) (a4 : Int32)  (M : Mm), Bd RM TM M → inR RM a1 → fX16_headBytes_L10 fu  n a1 a2 a3 a4 M = some out → Sm RM M out.2 ∧ Bd RM TM out.2 := by
  intro n
  induction n with
  | zero =>
    intro a1 a2 a3 a4 M hB ia1 h
    have h : (none : Option (Int32 × Mm)) = some out := h
    cases h
  | succ n ih =>
    intro a1 a2 a3 a4 M hB ia1 h
    rw [fX16_headBytes_L10] at h
    have hS : Sm RM M M := Sm.rf
    by_cases hc : a3 ≤ a4
    · have h := (if_pos hc).symm.trans h
      obtain rfl := Option.some.inj h
      exact ⟨hS, hB⟩
    · have h := (if_neg hc).symm.trans h
      obtain ⟨v2, M1, eM1, h⟩ := b2d h
      have w := oX16_byteAt fu  a1 a4 M hB ia1 eM1
      have hS := hS.tr w.1
      have hB := w.2
      by_cases hc : v2 = (10 : Int32)
      · have h := (if_pos hc).symm.trans h
        by_cases hc : a4 = a2
        · have h := (if_pos hc).symm.trans h
          have z := oX16_headBytes_L51 fu (fun b1 b2 b3 b4 M => fX16_headBytes_L10 fu  n b1 b2 b3 b4 M) ih a1 a3 a4 M1 hB ia1 h
          exact ⟨hS.tr z.1, z.2⟩
        · have h := (if_neg hc).symm.trans h
          by_cases hc : a4 = (a2 + (1 : Int32))
          · have h := (if_pos hc).symm.trans h
            obtain ⟨v4, M3, eM3, h⟩ := b2d h
            have w := oX16_byteAt fu  a1 a2 M1 hB ia1 eM3
            have hS := hS.tr w.1
            have hB := w.2
            by_cases hc : v4 = (13 : Int32)
            · have h := (if_pos hc).symm.trans h
              have z := oX16_headBytes_L51 fu (fun b1 b2 b3 b4 M => fX16_headBytes_L10 fu  n b1 b2 b3 b4 M) ih a1 a3 a4 M3 hB ia1 h
              exact ⟨hS.tr z.1, z.2⟩
            · have h := (if_neg hc).symm.trans h
              have z := oX16_headBytes_L55 fu (fun b1 b2 b3 b4 M => fX16_headBytes_L10 fu  n b1 b2 b3 b4 M) ih a1 a3 a4 M3 hB ia1 h
              exact ⟨hS.tr z.1, z.2⟩
          · have h := (if_neg hc).symm.trans h
            have z := oX16_headBytes_L55 fu (fun b1 b2 b3 b4 M => fX16_headBytes_L10 fu  n b1 b2 b3 b4 M) ih a1 a3 a4 M1 hB ia1 h
            exact ⟨hS.tr z.1, z.2⟩
      · have h := (if_neg hc).symm.trans h
        have z := oX16_headBytes_L73 fu (fun b1 b2 b3 b4 M => fX16_headBytes_L10 fu  n b1 b2 b3 b4 M) ih a1 a2 a3 a4 M1 hB ia1 h
        exact ⟨hS.tr z.1, z.2⟩
theorem oX16_headBytes (fu : Nat)   (a0 : Nat) (a1 : Option Nat)  (M : Mm) {out : Int32 × Mm} (hB : Bd RM TM M) (ra0 : RM a0) (ia1 : inR RM a1) (h : fX16_headBytes fu  a0 a1 M = some out) : Sm RM M out.2 ∧ Bd RM TM out.2 := by
  unfold fX16_headBytes at h
  have hS : Sm RM M M := Sm.rf
  obtain ⟨q1, eq1, h⟩ := bd h
  have rq1 := rc_in hB (show 12 ≤ 12 ∧ 12 ≤ 16 from by decide) eq1
  obtain ⟨v3, M2, eM2, h⟩ := b2d h
  have w := oX12_held fu q1  M hB rq1 eM2
  have hS := hS.tr w.1
  have hB := w.2
  have z := oX16_headBytes_L10 fu   fu a1 (0 : Int32) v3 (0 : Int32) M2 hB ia1 h
  exact ⟨hS.tr z.1, z.2⟩
theorem oX16_lineEnd_L2 (fu : Nat) {out : Int32 × Mm}   : ∀ (n : Nat) (a0 : Nat) (a2 : Int32)  (M : Mm), Bd RM TM M → RM a0 → fX16_lineEnd_L2 fu  n a0 a2 M = some out → Sm RM M out.2 ∧ Bd RM TM out.2 := by
  intro n
  induction n with
  | zero =>
    intro a0 a2 M hB ra0 h
    have h : (none : Option (Int32 × Mm)) = some out := h
    cases h
  | succ n ih =>
    intro a0 a2 M hB ra0 h
    rw [fX16_lineEnd_L2] at h
    have hS : Sm RM M M := Sm.rf
    obtain ⟨v1, ev1, h⟩ := bd h
    have iv1 := gR_in hB (show 12 ≤ 16 ∧ 16 ≤ 16 from by decide) ev1
    obtain ⟨v2, ev2, h⟩ := bd h
    by_cases hc : v2 = (10 : Int32)
    · have h := (if_pos hc).symm.trans h
      obtain rfl := Option.some.inj h
      exact ⟨hS, hB⟩
    · have h := (if_neg hc).symm.trans h
      have z := ih a0 (a2 + (1 : Int32)) M hB ra0 h
      exact ⟨hS.tr z.1, z.2⟩
theorem oX16_lineEnd (fu : Nat)   (a0 : Nat) (a1 : Int32)  (M : Mm) {out : Int32 × Mm} (hB : Bd RM TM M) (ra0 : RM a0) (h : fX16_lineEnd fu  a0 a1 M = some out) : Sm RM M out.2 ∧ Bd RM TM out.2 := by
  unfold fX16_lineEnd at h
  have hS : Sm RM M M := Sm.rf
  have z := oX16_lineEnd_L2 fu   fu a0 a1 M hB ra0 h
  exact ⟨hS.tr z.1, z.2⟩
theorem oX16_shown (fu : Nat)   (a0 : Nat) (a1 : Int32) (a2 : Int32)  (M : Mm) {out : Int32 × Mm} (hB : Bd RM TM M) (ra0 : RM a0) (h : fX16_shown fu  a0 a1 a2 M = some out) : Sm RM M out.2 ∧ Bd RM TM out.2 := by
  unfold fX16_shown at h
  have hS : Sm RM M M := Sm.rf
  by_cases hc : a2 ≤ a1
  · have h := (if_pos hc).symm.trans h
    obtain rfl := Option.some.inj h
    exact ⟨hS, hB⟩
  · have h := (if_neg hc).symm.trans h
    obtain ⟨v1, ev1, h⟩ := bd h
    have iv1 := gR_in hB (show 12 ≤ 16 ∧ 16 ≤ 16 from by decide) ev1
    obtain ⟨v2, ev2, h⟩ := bd h
    by_cases hc : v2 = (13 : Int32)
    · have h := (if_pos hc).symm.trans h
      obtain rfl := Option.some.inj h
      exact ⟨hS, hB⟩
    · have h := (if_neg hc).symm.trans h
      obtain rfl := Option.some.inj h
      exact ⟨hS, hB⟩
theorem oX16_headAt (fu : Nat)   (a0 : Nat) (a1 : Int32)  (M : Mm) {out : Int32 × Mm} (hB : Bd RM TM M) (ra0 : RM a0) (h : fX16_headAt fu  a0 a1 M = some out) : Sm RM M out.2 ∧ Bd RM TM out.2 := by
  unfold fX16_headAt at h
  have hS : Sm RM M M := Sm.rf
  obtain ⟨v1, ev1, h⟩ := bd h
  have iv1 := gR_in hB (show 12 ≤ 16 ∧ 16 ≤ 16 from by decide) ev1
  obtain ⟨v2, ev2, h⟩ := bd h
  obtain rfl := Option.some.inj h
  exact ⟨hS, hB⟩
theorem oX16_says_L15 (fu : Nat) {out : Int32 × Mm}   : ∀ (n : Nat) (a0 : Nat) (a1 : Int32) (a2 : Int32) (a3 : Option Nat) (a4 : Int32)  (M : Mm), Bd RM TM M → RM a0 → fX16_says_L15 fu  n a0 a1 a2 a3 a4 M = some out → Sm RM M out.2 ∧ Bd RM TM out.2 := by
  intro n
  induction n with
  | zero =>
    intro a0 a1 a2 a3 a4 M hB ra0 h
    have h : (none : Option (Int32 × Mm)) = some out := h
    cases h
  | succ n ih =>
    intro a0 a1 a2 a3 a4 M hB ra0 h
    rw [fX16_says_L15] at h
    have hS : Sm RM M M := Sm.rf
    by_cases hc : a2 ≤ a4
    · have h := (if_pos hc).symm.trans h
      obtain ⟨hz, rfl⟩ := rN_some h
      exact ⟨hS, hB⟩
    · have h := (if_neg hc).symm.trans h
      obtain ⟨q1, eq1, h⟩ := bd h
      have rq1 := rc_in hB (show 12 ≤ 16 ∧ 16 ≤ 16 from by decide) eq1
      obtain ⟨v3, M2, eM2, h⟩ := b2d h
      have w := oX16_headAt fu q1 a4 M hB rq1 eM2
      have hS := hS.tr w.1
      have hB := w.2
      obtain ⟨q4, eq4, h⟩ := bd h
      obtain ⟨v6, M5, eM5, h⟩ := b2d h
      have w := oJ0_charAt_5068e fu q4 (a4 - a1) M2 hB  eM5
      have hS := hS.tr w.1
      have hB := w.2
      by_cases hc : v3 = v6
      · have h := (if_pos hc).symm.trans h
        have z := ih a0 a1 a2 a3 (a4 + (1 : Int32)) M5 hB ra0 h
        exact ⟨hS.tr z.1, z.2⟩
      · have h := (if_neg hc).symm.trans h
        obtain ⟨hz, rfl⟩ := rN_some h
        exact ⟨hS, hB⟩
theorem oX16_says (fu : Nat)   (a0 : Nat) (a1 : Int32) (a2 : Int32) (a3 : Option Nat)  (M : Mm) {out : Int32 × Mm} (hB : Bd RM TM M) (ra0 : RM a0) (h : fX16_says fu  a0 a1 a2 a3 M = some out) : Sm RM M out.2 ∧ Bd RM TM out.2 := by
  unfold fX16_says at h
  have hS : Sm RM M M := Sm.rf
  obtain ⟨q1, eq1, h⟩ := bd h
  obtain ⟨v3, M2, eM2, h⟩ := b2d h
  have w := oJ0_length_8abf5 fu q1  M hB  eM2
  have hS := hS.tr w.1
  have hB := w.2
  by_cases hc : (a2 - a1) = v3
  · have h := (if_pos hc).symm.trans h
    have z := oX16_says_L15 fu   fu a0 a1 a2 a3 a1 M2 hB ra0 h
    exact ⟨hS.tr z.1, z.2⟩
  · have h := (if_neg hc).symm.trans h
    obtain ⟨hz, rfl⟩ := rN_some h
    exact ⟨hS, hB⟩
theorem oX16_requestLine_L283 (fu : Nat)   (a0 : Nat) (a3 : Int32) (a4 : Int32) (s0 : Option Nat) (s1 : Int32) (M : Mm) {out : Int32 × Mm} (hB : Bd RM TM M) (ra0 : RM a0) (is0 : inR RM s0) (h : fX16_requestLine_L283 fu  a0 a3 a4 s0 s1 M = some out) : Sm RM M out.2 ∧ Bd RM TM out.2 := by
  unfold fX16_requestLine_L283 at h
  have hS : Sm RM M M := Sm.rf
  obtain ⟨M1, eM1, h⟩ := bd h
  have w := pZ_own hB (show 12 ≤ 16 ∧ 16 ≤ 16 from by decide) eM1
  have hS := hS.tr w.1
  have hB := w.2
  obtain ⟨M2, eM2, h⟩ := bd h
  have w := pF_own hB (show 12 ≤ 16 ∧ 16 ≤ 16 from by decide) eM2
  have hS := hS.tr w.1
  have hB := w.2
  obtain ⟨M3, eM3, h⟩ := bd h
  have w := pF_own hB (show 12 ≤ 16 ∧ 16 ≤ 16 from by decide) eM3
  have hS := hS.tr w.1
  have hB := w.2
  obtain ⟨hz, rfl⟩ := rN_some h
  exact ⟨hS, hB⟩
theorem oX16_requestLine_L282 (fu : Nat)   (a0 : Nat) (a3 : Int32) (a4 : Int32) (s0 : Option Nat) (M : Mm) {out : Int32 × Mm} (hB : Bd RM TM M) (ra0 : RM a0) (is0 : inR RM s0) (h : fX16_requestLine_L282 fu  a0 a3 a4 s0 M = some out) : Sm RM M out.2 ∧ Bd RM TM out.2 := by
  unfold fX16_requestLine_L282 at h
  have hS : Sm RM M M := Sm.rf
  have z := oX16_requestLine_L283 fu   a0 a3 a4 s0 (0 : Int32) M hB ra0 is0 h
  exact ⟨hS.tr z.1, z.2⟩
theorem oX16_requestLine_L242 (fu : Nat)   (a0 : Nat) (a1 : Int32) (a3 : Int32) (a4 : Int32) (s0 : Option Nat) (s1 : Int32) (M : Mm) {out : Int32 × Mm} (hB : Bd RM TM M) (ra0 : RM a0) (is0 : inR RM s0) (h : fX16_requestLine_L242 fu  a0 a1 a3 a4 s0 s1 M = some out) : Sm RM M out.2 ∧ Bd RM TM out.2 := by
  unfold fX16_requestLine_L242 at h
  have hS : Sm RM M M := Sm.rf
  obtain ⟨M1, eM1, h⟩ := bd h
  have w := pZ_own hB (show 12 ≤ 16 ∧ 16 ≤ 16 from by decide) eM1
  have hS := hS.tr w.1
  have hB := w.2
  obtain ⟨q2, eq2, h⟩ := bd h
  have rq2 := rc_in hB (show 12 ≤ 16 ∧ 16 ≤ 16 from by decide) eq2
  obtain ⟨v4, M3, eM3, h⟩ := b2d h
  have w := oX16_says fu q2 a1 a3 (some 3) M1 hB rq2 eM3
  have hS := hS.tr w.1
  have hB := w.2
  obtain ⟨M5, eM5, h⟩ := bd h
  have w := pZ_own hB (show 12 ≤ 16 ∧ 16 ≤ 16 from by decide) eM5
  have hS := hS.tr w.1
  have hB := w.2
  obtain ⟨v6, ev6, h⟩ := bd h
  by_cases hc : v6 = 0
  · have h := (if_pos hc).symm.trans h
    obtain ⟨q7, eq7, h⟩ := bd h
    have rq7 := rc_in hB (show 12 ≤ 16 ∧ 16 ≤ 16 from by decide) eq7
    obtain ⟨v9, M8, eM8, h⟩ := b2d h
    have w := oX16_says fu q7 a1 a3 (some 2) M5 hB rq7 eM8
    have hS := hS.tr w.1
    have hB := w.2
    by_cases hc : v9 = 0
    · have h := (if_pos hc).symm.trans h
      have z := oX16_requestLine_L283 fu   a0 a3 a4 (some a0) (1 : Int32) M8 hB ra0 (inR_some ra0) h
      exact ⟨hS.tr z.1, z.2⟩
    · have h := (if_neg hc).symm.trans h
      have z := oX16_requestLine_L282 fu   a0 a3 a4 (some a0) M8 hB ra0 (inR_some ra0) h
      exact ⟨hS.tr z.1, z.2⟩
  · have h := (if_neg hc).symm.trans h
    have z := oX16_requestLine_L282 fu   a0 a3 a4 (some a0) M5 hB ra0 (inR_some ra0) h
    exact ⟨hS.tr z.1, z.2⟩
theorem oX16_requestLine_L223 (fu : Nat)   (a0 : Nat) (a1 : Int32) (a2 : Int32) (a3 : Int32) (a4 : Int32)  (M : Mm) {out : Int32 × Mm} (hB : Bd RM TM M) (ra0 : RM a0) (h : fX16_requestLine_L223 fu  a0 a1 a2 a3 a4 M = some out) : Sm RM M out.2 ∧ Bd RM TM out.2 := by
  unfold fX16_requestLine_L223 at h
  have hS : Sm RM M M := Sm.rf
  obtain ⟨v1, ev1, h⟩ := bd h
  have iv1 := gR_in hB (show 12 ≤ 16 ∧ 16 ≤ 16 from by decide) ev1
  obtain ⟨v2, ev2, h⟩ := bd h
  by_cases hc : v2 = (48 : Int32)
  · have h := (if_pos hc).symm.trans h
    have z := oX16_requestLine_L242 fu   a0 a1 a3 a4 (some a0) (1 : Int32) M hB ra0 (inR_some ra0) h
    exact ⟨hS.tr z.1, z.2⟩
  · have h := (if_neg hc).symm.trans h
    have z := oX16_requestLine_L242 fu   a0 a1 a3 a4 (some a0) (0 : Int32) M hB ra0 (inR_some ra0) h
    exact ⟨hS.tr z.1, z.2⟩
theorem oX16_requestLine_L154 (fu : Nat) {out : Int32 × Mm}   : ∀ (n : Nat) (a0 : Nat) (a1 : Int32) (a2 : Int32) (a3 : Int32) (a4 : Int32) (a6 : Int32)  (M : Mm), Bd RM TM M → RM a0 → fX16_requestLine_L154 fu  n a0 a1 a2 a3 a4 a6 M = some out → Sm RM M out.2 ∧ Bd RM TM out.2 := by
  intro n
  induction n with
  | zero =>
    intro a0 a1 a2 a3 a4 a6 M hB ra0 h
    have h : (none : Option (Int32 × Mm)) = some out := h
    cases h
  | succ n ih =>
    intro a0 a1 a2 a3 a4 a6 M hB ra0 h
    rw [fX16_requestLine_L154] at h
    have hS : Sm RM M M := Sm.rf
    by_cases hc : a4 ≤ a6
    · have h := (if_pos hc).symm.trans h
      obtain ⟨q1, eq1, h⟩ := bd h
      have rq1 := rc_in hB (show 12 ≤ 16 ∧ 16 ≤ 16 from by decide) eq1
      obtain ⟨v3, M2, eM2, h⟩ := b2d h
      have w := oX16_says fu q1 (a4 + (1 : Int32)) a2 (some 43) M hB rq1 eM2
      have hS := hS.tr w.1
      have hB := w.2
      by_cases hc : v3 = 0
      · have h := (if_pos hc).symm.trans h
        obtain ⟨q4, eq4, h⟩ := bd h
        have rq4 := rc_in hB (show 12 ≤ 16 ∧ 16 ≤ 16 from by decide) eq4
        obtain ⟨v6, M5, eM5, h⟩ := b2d h
        have w := oX16_says fu q4 (a4 + (1 : Int32)) a2 (some 44) M2 hB rq4 eM5
        have hS := hS.tr w.1
        have hB := w.2
        by_cases hc : v6 = 0
        · have h := (if_pos hc).symm.trans h
          obtain ⟨hz, rfl⟩ := rN_some h
          exact ⟨hS, hB⟩
        · have h := (if_neg hc).symm.trans h
          have z := oX16_requestLine_L223 fu   a0 a1 a2 a3 a4 M5 hB ra0 h
          exact ⟨hS.tr z.1, z.2⟩
      · have h := (if_neg hc).symm.trans h
        have z := oX16_requestLine_L223 fu   a0 a1 a2 a3 a4 M2 hB ra0 h
        exact ⟨hS.tr z.1, z.2⟩
    · have h := (if_neg hc).symm.trans h
      obtain ⟨q7, eq7, h⟩ := bd h
      have rq7 := rc_in hB (show 12 ≤ 16 ∧ 16 ≤ 16 from by decide) eq7
      obtain ⟨v9, M8, eM8, h⟩ := b2d h
      have w := oX16_headAt fu q7 a6 M hB rq7 eM8
      have hS := hS.tr w.1
      have hB := w.2
      by_cases hc : v9 < (33 : Int32)
      · have h := (if_pos hc).symm.trans h
        obtain ⟨hz, rfl⟩ := rN_some h
        exact ⟨hS, hB⟩
      · have h := (if_neg hc).symm.trans h
        obtain ⟨q10, eq10, h⟩ := bd h
        have rq10 := rc_in hB (show 12 ≤ 16 ∧ 16 ≤ 16 from by decide) eq10
        obtain ⟨v12, M11, eM11, h⟩ := b2d h
        have w := oX16_headAt fu q10 a6 M8 hB rq10 eM11
        have hS := hS.tr w.1
        have hB := w.2
        by_cases hc : v12 ≤ (126 : Int32)
        · have h := (if_pos hc).symm.trans h
          have z := ih a0 a1 a2 a3 a4 (a6 + (1 : Int32)) M11 hB ra0 h
          exact ⟨hS.tr z.1, z.2⟩
        · have h := (if_neg hc).symm.trans h
          obtain ⟨hz, rfl⟩ := rN_some h
          exact ⟨hS, hB⟩
theorem oX16_requestLine_L113 (fu : Nat) {out : Int32 × Mm}   : ∀ (n : Nat) (a0 : Nat) (a1 : Int32) (a2 : Int32) (a3 : Int32) (a4 : Int32) (a6 : Int32)  (M : Mm), Bd RM TM M → RM a0 → fX16_requestLine_L113 fu  n a0 a1 a2 a3 a4 a6 M = some out → Sm RM M out.2 ∧ Bd RM TM out.2 := by
  intro n
  induction n with
  | zero =>
    intro a0 a1 a2 a3 a4 a6 M hB ra0 h
    have h : (none : Option (Int32 × Mm)) = some out := h
    cases h
  | succ n ih =>
    intro a0 a1 a2 a3 a4 a6 M hB ra0 h
    rw [fX16_requestLine_L113] at h
    have hS : Sm RM M M := Sm.rf
    by_cases hc : a3 ≤ a6
    · have h := (if_pos hc).symm.trans h
      have z := oX16_requestLine_L154 fu   fu a0 a1 a2 a3 a4 (a3 + (1 : Int32)) M hB ra0 h
      exact ⟨hS.tr z.1, z.2⟩
    · have h := (if_neg hc).symm.trans h
      obtain ⟨q1, eq1, h⟩ := bd h
      have rq1 := rc_in hB (show 12 ≤ 16 ∧ 16 ≤ 16 from by decide) eq1
      obtain ⟨v3, M2, eM2, h⟩ := b2d h
      have w := oX16_headAt fu q1 a6 M hB rq1 eM2
      have hS := hS.tr w.1
      have hB := w.2
      by_cases hc : v3 < (65 : Int32)
      · have h := (if_pos hc).symm.trans h
        obtain ⟨hz, rfl⟩ := rN_some h
        exact ⟨hS, hB⟩
      · have h := (if_neg hc).symm.trans h
        obtain ⟨q4, eq4, h⟩ := bd h
        have rq4 := rc_in hB (show 12 ≤ 16 ∧ 16 ≤ 16 from by decide) eq4
        obtain ⟨v6, M5, eM5, h⟩ := b2d h
        have w := oX16_headAt fu q4 a6 M2 hB rq4 eM5
        have hS := hS.tr w.1
        have hB := w.2
        by_cases hc : v6 ≤ (90 : Int32)
        · have h := (if_pos hc).symm.trans h
          have z := ih a0 a1 a2 a3 a4 (a6 + (1 : Int32)) M5 hB ra0 h
          exact ⟨hS.tr z.1, z.2⟩
        · have h := (if_neg hc).symm.trans h
          obtain ⟨hz, rfl⟩ := rN_some h
          exact ⟨hS, hB⟩
theorem oX16_requestLine_L51 (fu : Nat) {out : Int32 × Mm} (k11 : Nat → Int32 → Int32 → Int32 → Int32 → Int32 → Int32 → Mm → Option (Int32 × Mm)) (hk11 : ∀ (b0 : Nat) (b1 : Int32) (b2 : Int32) (b3 : Int32) (b4 : Int32) (b5 : Int32) (b6 : Int32)  (M : Mm), Bd RM TM M → RM b0 → k11 b0 b1 b2 b3 b4 b5 b6 M = some out → Sm RM M out.2 ∧ Bd RM TM out.2) (a0 : Nat) (a1 : Int32) (a2 : Int32) (a3 : Int32) (a4 : Int32) (a5 : Int32) (a6 : Int32)  (M : Mm) (hB : Bd RM TM M) (ra0 : RM a0) (h : fX16_requestLine_L51 fu k11 a0 a1 a2 a3 a4 a5 a6 M = some out) : Sm RM M out.2 ∧ Bd RM TM out.2 := by
  unfold fX16_requestLine_L51 at h
  have hS : Sm RM M M := Sm.rf
  have z := hk11 a0 a1 a2 a3 a4 a5 (a6 + (1 : Int32)) M hB ra0 h
  exact ⟨hS.tr z.1, z.2⟩
theorem oX16_requestLine_L41 (fu : Nat) {out : Int32 × Mm} (k11 : Nat → Int32 → Int32 → Int32 → Int32 → Int32 → Int32 → Mm → Option (Int32 × Mm)) (hk11 : ∀ (b0 : Nat) (b1 : Int32) (b2 : Int32) (b3 : Int32) (b4 : Int32) (b5 : Int32) (b6 : Int32)  (M : Mm), Bd RM TM M → RM b0 → k11 b0 b1 b2 b3 b4 b5 b6 M = some out → Sm RM M out.2 ∧ Bd RM TM out.2) (a0 : Nat) (a1 : Int32) (a2 : Int32) (a3 : Int32) (a4 : Int32) (a5 : Int32) (a6 : Int32)  (M : Mm) (hB : Bd RM TM M) (ra0 : RM a0) (h : fX16_requestLine_L41 fu k11 a0 a1 a2 a3 a4 a5 a6 M = some out) : Sm RM M out.2 ∧ Bd RM TM out.2 := by
  unfold fX16_requestLine_L41 at h
  have hS : Sm RM M M := Sm.rf
  by_cases hc : a5 = (2 : Int32)
  · have h := (if_pos hc).symm.trans h
    have z := oX16_requestLine_L51 fu k11 hk11 a0 a1 a2 a3 a6 a5 a6 M hB ra0 h
    exact ⟨hS.tr z.1, z.2⟩
  · have h := (if_neg hc).symm.trans h
    have z := oX16_requestLine_L51 fu k11 hk11 a0 a1 a2 a3 a4 a5 a6 M hB ra0 h
    exact ⟨hS.tr z.1, z.2⟩
theorem oX16_requestLine_L11 (fu : Nat) {out : Int32 × Mm}   : ∀ (n : Nat) (a0 : Nat) (a1 : Int32) (a2 : Int32) (a3 : Int32) (a4 : Int32) (a5 : Int32) (a6 : Int32)  (M : Mm), Bd RM TM M → RM a0 → fX16_requestLine_L11 fu  n a0 a1 a2 a3 a4 a5 a6 M = some out → Sm RM M out.2 ∧ Bd RM TM out.2 := by
  intro n
  induction n with
  | zero =>
    intro a0 a1 a2 a3 a4 a5 a6 M hB ra0 h
    have h : (none : Option (Int32 × Mm)) = some out := h
    cases h
  | succ n ih =>
    intro a0 a1 a2 a3 a4 a5 a6 M hB ra0 h
    rw [fX16_requestLine_L11] at h
    have hS : Sm RM M M := Sm.rf
    by_cases hc : a2 ≤ a6
    · have h := (if_pos hc).symm.trans h
      by_cases hc : a5 = (2 : Int32)
      · have h := (if_pos hc).symm.trans h
        by_cases hc : (a3 - a1) < (1 : Int32)
        · have h := (if_pos hc).symm.trans h
          obtain ⟨hz, rfl⟩ := rN_some h
          exact ⟨hS, hB⟩
        · have h := (if_neg hc).symm.trans h
          by_cases hc : (16 : Int32) < (a3 - a1)
          · have h := (if_pos hc).symm.trans h
            obtain ⟨hz, rfl⟩ := rN_some h
            exact ⟨hS, hB⟩
          · have h := (if_neg hc).symm.trans h
            by_cases hc : a4 = (a3 + (1 : Int32))
            · have h := (if_pos hc).symm.trans h
              obtain ⟨hz, rfl⟩ := rN_some h
              exact ⟨hS, hB⟩
            · have h := (if_neg hc).symm.trans h
              obtain ⟨v1, ev1, h⟩ := bd h
              have iv1 := gR_in hB (show 12 ≤ 16 ∧ 16 ≤ 16 from by decide) ev1
              obtain ⟨v2, ev2, h⟩ := bd h
              by_cases hc : v2 = (47 : Int32)
              · have h := (if_pos hc).symm.trans h
                by_cases hc : (a2 - a4) = (9 : Int32)
                · have h := (if_pos hc).symm.trans h
                  have z := oX16_requestLine_L113 fu   fu a0 a1 a2 a3 a4 a1 M hB ra0 h
                  exact ⟨hS.tr z.1, z.2⟩
                · have h := (if_neg hc).symm.trans h
                  obtain ⟨hz, rfl⟩ := rN_some h
                  exact ⟨hS, hB⟩
              · have h := (if_neg hc).symm.trans h
                obtain ⟨hz, rfl⟩ := rN_some h
                exact ⟨hS, hB⟩
      · have h := (if_neg hc).symm.trans h
        obtain ⟨hz, rfl⟩ := rN_some h
        exact ⟨hS, hB⟩
    · have h := (if_neg hc).symm.trans h
      obtain ⟨v3, ev3, h⟩ := bd h
      have iv3 := gR_in hB (show 12 ≤ 16 ∧ 16 ≤ 16 from by decide) ev3
      obtain ⟨v4, ev4, h⟩ := bd h
      by_cases hc : v4 = (32 : Int32)
      · have h := (if_pos hc).symm.trans h
        by_cases hc : (a5 + (1 : Int32)) = (1 : Int32)
        · have h := (if_pos hc).symm.trans h
          have z := oX16_requestLine_L41 fu (fun b0 b1 b2 b3 b4 b5 b6 M => fX16_requestLine_L11 fu  n b0 b1 b2 b3 b4 b5 b6 M) ih a0 a1 a2 a6 a4 (a5 + (1 : Int32)) a6 M hB ra0 h
          exact ⟨hS.tr z.1, z.2⟩
        · have h := (if_neg hc).symm.trans h
          have z := oX16_requestLine_L41 fu (fun b0 b1 b2 b3 b4 b5 b6 M => fX16_requestLine_L11 fu  n b0 b1 b2 b3 b4 b5 b6 M) ih a0 a1 a2 a3 a4 (a5 + (1 : Int32)) a6 M hB ra0 h
          exact ⟨hS.tr z.1, z.2⟩
      · have h := (if_neg hc).symm.trans h
        have z := oX16_requestLine_L51 fu (fun b0 b1 b2 b3 b4 b5 b6 M => fX16_requestLine_L11 fu  n b0 b1 b2 b3 b4 b5 b6 M) ih a0 a1 a2 a3 a4 a5 a6 M hB ra0 h
        exact ⟨hS.tr z.1, z.2⟩
theorem oX16_requestLine (fu : Nat)   (a0 : Nat) (a1 : Int32) (a2 : Int32)  (M : Mm) {out : Int32 × Mm} (hB : Bd RM TM M) (ra0 : RM a0) (h : fX16_requestLine fu  a0 a1 a2 M = some out) : Sm RM M out.2 ∧ Bd RM TM out.2 := by
  unfold fX16_requestLine at h
  have hS : Sm RM M M := Sm.rf
  have z := oX16_requestLine_L11 fu   fu a0 a1 a2 (-1 : Int32) (-1 : Int32) (0 : Int32) a1 M hB ra0 h
  exact ⟨hS.tr z.1, z.2⟩
theorem oX16_small (fu : Nat)   (a0 : Int32)  (M : Mm) {out : Int32 × Mm} (hB : Bd RM TM M)  (h : fX16_small fu  a0 M = some out) : Sm RM M out.2 ∧ Bd RM TM out.2 := by
  unfold fX16_small at h
  have hS : Sm RM M M := Sm.rf
  by_cases hc : a0 < (65 : Int32)
  · have h := (if_pos hc).symm.trans h
    obtain rfl := Option.some.inj h
    exact ⟨hS, hB⟩
  · have h := (if_neg hc).symm.trans h
    by_cases hc : (90 : Int32) < a0
    · have h := (if_pos hc).symm.trans h
      obtain rfl := Option.some.inj h
      exact ⟨hS, hB⟩
    · have h := (if_neg hc).symm.trans h
      obtain rfl := Option.some.inj h
      exact ⟨hS, hB⟩
theorem oX16_isDigit (fu : Nat)   (a0 : Int32)  (M : Mm) {out : Int32 × Mm} (hB : Bd RM TM M)  (h : fX16_isDigit fu  a0 M = some out) : Sm RM M out.2 ∧ Bd RM TM out.2 := by
  unfold fX16_isDigit at h
  have hS : Sm RM M M := Sm.rf
  by_cases hc : a0 < (48 : Int32)
  · have h := (if_pos hc).symm.trans h
    obtain ⟨hz, rfl⟩ := rN_some h
    exact ⟨hS, hB⟩
  · have h := (if_neg hc).symm.trans h
    by_cases hc : (57 : Int32) < a0
    · have h := (if_pos hc).symm.trans h
      obtain ⟨hz, rfl⟩ := rN_some h
      exact ⟨hS, hB⟩
    · have h := (if_neg hc).symm.trans h
      obtain ⟨hz, rfl⟩ := rN_some h
      exact ⟨hS, hB⟩
theorem oX16_isNameCode_L113 (fu : Nat)   (a0 : Int32) (a2 : Int32)  (M : Mm) {out : Int32 × Mm} (hB : Bd RM TM M)  (h : fX16_isNameCode_L113 fu  a0 a2 M = some out) : Sm RM M out.2 ∧ Bd RM TM out.2 := by
  unfold fX16_isNameCode_L113 at h
  have hS : Sm RM M M := Sm.rf
  obtain ⟨v2, M1, eM1, h⟩ := b2d h
  have w := oX16_isDigit fu  a0 M hB  eM1
  have hS := hS.tr w.1
  have hB := w.2
  by_cases hc : v2 = 0
  · have h := (if_pos hc).symm.trans h
    by_cases hc : a2 = 0
    · have h := (if_pos hc).symm.trans h
      obtain ⟨hz, rfl⟩ := rN_some h
      exact ⟨hS, hB⟩
    · have h := (if_neg hc).symm.trans h
      obtain ⟨hz, rfl⟩ := rN_some h
      exact ⟨hS, hB⟩
  · have h := (if_neg hc).symm.trans h
    obtain ⟨hz, rfl⟩ := rN_some h
    exact ⟨hS, hB⟩
theorem oX16_isNameCode_L100 (fu : Nat)   (a0 : Int32) (a1 : Int32) (s0 : Int32) (M : Mm) {out : Int32 × Mm} (hB : Bd RM TM M)  (h : fX16_isNameCode_L100 fu  a0 a1 s0 M = some out) : Sm RM M out.2 ∧ Bd RM TM out.2 := by
  unfold fX16_isNameCode_L100 at h
  have hS : Sm RM M M := Sm.rf
  by_cases hc : a1 < (97 : Int32)
  · have h := (if_pos hc).symm.trans h
    have z := oX16_isNameCode_L113 fu   a0 s0 M hB  h
    exact ⟨hS.tr z.1, z.2⟩
  · have h := (if_neg hc).symm.trans h
    by_cases hc : a1 ≤ (122 : Int32)
    · have h := (if_pos hc).symm.trans h
      obtain ⟨hz, rfl⟩ := rN_some h
      exact ⟨hS, hB⟩
    · have h := (if_neg hc).symm.trans h
      have z := oX16_isNameCode_L113 fu   a0 s0 M hB  h
      exact ⟨hS.tr z.1, z.2⟩
theorem oX16_isNameCode_L95 (fu : Nat)   (a0 : Int32) (a1 : Int32)  (M : Mm) {out : Int32 × Mm} (hB : Bd RM TM M)  (h : fX16_isNameCode_L95 fu  a0 a1 M = some out) : Sm RM M out.2 ∧ Bd RM TM out.2 := by
  unfold fX16_isNameCode_L95 at h
  have hS : Sm RM M M := Sm.rf
  have z := oX16_isNameCode_L100 fu   a0 a1 (1 : Int32) M hB  h
  exact ⟨hS.tr z.1, z.2⟩
theorem oX16_isNameCode (fu : Nat)   (a0 : Int32)  (M : Mm) {out : Int32 × Mm} (hB : Bd RM TM M)  (h : fX16_isNameCode fu  a0 M = some out) : Sm RM M out.2 ∧ Bd RM TM out.2 := by
  unfold fX16_isNameCode at h
  have hS : Sm RM M M := Sm.rf
  obtain ⟨v2, M1, eM1, h⟩ := b2d h
  have w := oX16_small fu  a0 M hB  eM1
  have hS := hS.tr w.1
  have hB := w.2
  by_cases hc : a0 = (45 : Int32)
  · have h := (if_pos hc).symm.trans h
    have z := oX16_isNameCode_L95 fu   a0 v2 M1 hB  h
    exact ⟨hS.tr z.1, z.2⟩
  · have h := (if_neg hc).symm.trans h
    by_cases hc : a0 = (95 : Int32)
    · have h := (if_pos hc).symm.trans h
      have z := oX16_isNameCode_L95 fu   a0 v2 M1 hB  h
      exact ⟨hS.tr z.1, z.2⟩
    · have h := (if_neg hc).symm.trans h
      by_cases hc : a0 = (46 : Int32)
      · have h := (if_pos hc).symm.trans h
        have z := oX16_isNameCode_L95 fu   a0 v2 M1 hB  h
        exact ⟨hS.tr z.1, z.2⟩
      · have h := (if_neg hc).symm.trans h
        by_cases hc : a0 = (33 : Int32)
        · have h := (if_pos hc).symm.trans h
          have z := oX16_isNameCode_L95 fu   a0 v2 M1 hB  h
          exact ⟨hS.tr z.1, z.2⟩
        · have h := (if_neg hc).symm.trans h
          by_cases hc : a0 = (35 : Int32)
          · have h := (if_pos hc).symm.trans h
            have z := oX16_isNameCode_L95 fu   a0 v2 M1 hB  h
            exact ⟨hS.tr z.1, z.2⟩
          · have h := (if_neg hc).symm.trans h
            by_cases hc : a0 = (36 : Int32)
            · have h := (if_pos hc).symm.trans h
              have z := oX16_isNameCode_L95 fu   a0 v2 M1 hB  h
              exact ⟨hS.tr z.1, z.2⟩
            · have h := (if_neg hc).symm.trans h
              by_cases hc : a0 = (37 : Int32)
              · have h := (if_pos hc).symm.trans h
                have z := oX16_isNameCode_L95 fu   a0 v2 M1 hB  h
                exact ⟨hS.tr z.1, z.2⟩
              · have h := (if_neg hc).symm.trans h
                by_cases hc : a0 = (38 : Int32)
                · have h := (if_pos hc).symm.trans h
                  have z := oX16_isNameCode_L95 fu   a0 v2 M1 hB  h
                  exact ⟨hS.tr z.1, z.2⟩
                · have h := (if_neg hc).symm.trans h
                  by_cases hc : a0 = (39 : Int32)
                  · have h := (if_pos hc).symm.trans h
                    have z := oX16_isNameCode_L95 fu   a0 v2 M1 hB  h
                    exact ⟨hS.tr z.1, z.2⟩
                  · have h := (if_neg hc).symm.trans h
                    by_cases hc : a0 = (42 : Int32)
                    · have h := (if_pos hc).symm.trans h
                      have z := oX16_isNameCode_L95 fu   a0 v2 M1 hB  h
                      exact ⟨hS.tr z.1, z.2⟩
                    · have h := (if_neg hc).symm.trans h
                      by_cases hc : a0 = (43 : Int32)
                      · have h := (if_pos hc).symm.trans h
                        have z := oX16_isNameCode_L95 fu   a0 v2 M1 hB  h
                        exact ⟨hS.tr z.1, z.2⟩
                      · have h := (if_neg hc).symm.trans h
                        by_cases hc : a0 = (94 : Int32)
                        · have h := (if_pos hc).symm.trans h
                          have z := oX16_isNameCode_L95 fu   a0 v2 M1 hB  h
                          exact ⟨hS.tr z.1, z.2⟩
                        · have h := (if_neg hc).symm.trans h
                          by_cases hc : a0 = (96 : Int32)
                          · have h := (if_pos hc).symm.trans h
                            have z := oX16_isNameCode_L95 fu   a0 v2 M1 hB  h
                            exact ⟨hS.tr z.1, z.2⟩
                          · have h := (if_neg hc).symm.trans h
                            by_cases hc : a0 = (124 : Int32)
                            · have h := (if_pos hc).symm.trans h
                              have z := oX16_isNameCode_L95 fu   a0 v2 M1 hB  h
                              exact ⟨hS.tr z.1, z.2⟩
                            · have h := (if_neg hc).symm.trans h
                              by_cases hc : a0 = (126 : Int32)
                              · have h := (if_pos hc).symm.trans h
                                have z := oX16_isNameCode_L95 fu   a0 v2 M1 hB  h
                                exact ⟨hS.tr z.1, z.2⟩
                              · have h := (if_neg hc).symm.trans h
                                have z := oX16_isNameCode_L100 fu   a0 v2 (0 : Int32) M1 hB  h
                                exact ⟨hS.tr z.1, z.2⟩
theorem oX16_isBlank (fu : Nat)   (a0 : Int32)  (M : Mm) {out : Int32 × Mm} (hB : Bd RM TM M)  (h : fX16_isBlank fu  a0 M = some out) : Sm RM M out.2 ∧ Bd RM TM out.2 := by
  unfold fX16_isBlank at h
  have hS : Sm RM M M := Sm.rf
  by_cases hc : a0 = (32 : Int32)
  · have h := (if_pos hc).symm.trans h
    obtain ⟨hz, rfl⟩ := rN_some h
    exact ⟨hS, hB⟩
  · have h := (if_neg hc).symm.trans h
    by_cases hc : a0 = (9 : Int32)
    · have h := (if_pos hc).symm.trans h
      obtain ⟨hz, rfl⟩ := rN_some h
      exact ⟨hS, hB⟩
    · have h := (if_neg hc).symm.trans h
      obtain ⟨hz, rfl⟩ := rN_some h
      exact ⟨hS, hB⟩
theorem oX16_saysSmall_L15 (fu : Nat) {out : Int32 × Mm}   : ∀ (n : Nat) (a0 : Nat) (a1 : Int32) (a2 : Int32) (a3 : Option Nat) (a4 : Int32)  (M : Mm), Bd RM TM M → RM a0 → fX16_saysSmall_L15 fu  n a0 a1 a2 a3 a4 M = some out → Sm RM M out.2 ∧ Bd RM TM out.2 := by
  intro n
  induction n with
  | zero =>
    intro a0 a1 a2 a3 a4 M hB ra0 h
    have h : (none : Option (Int32 × Mm)) = some out := h
    cases h
  | succ n ih =>
    intro a0 a1 a2 a3 a4 M hB ra0 h
    rw [fX16_saysSmall_L15] at h
    have hS : Sm RM M M := Sm.rf
    by_cases hc : a2 ≤ a4
    · have h := (if_pos hc).symm.trans h
      obtain ⟨hz, rfl⟩ := rN_some h
      exact ⟨hS, hB⟩
    · have h := (if_neg hc).symm.trans h
      obtain ⟨q1, eq1, h⟩ := bd h
      have rq1 := rc_in hB (show 12 ≤ 16 ∧ 16 ≤ 16 from by decide) eq1
      obtain ⟨v3, M2, eM2, h⟩ := b2d h
      have w := oX16_headAt fu q1 a4 M hB rq1 eM2
      have hS := hS.tr w.1
      have hB := w.2
      obtain ⟨v5, M4, eM4, h⟩ := b2d h
      have w := oX16_small fu  v3 M2 hB  eM4
      have hS := hS.tr w.1
      have hB := w.2
      obtain ⟨q6, eq6, h⟩ := bd h
      obtain ⟨v8, M7, eM7, h⟩ := b2d h
      have w := oJ0_charAt_5068e fu q6 (a4 - a1) M4 hB  eM7
      have hS := hS.tr w.1
      have hB := w.2
      by_cases hc : v5 = v8
      · have h := (if_pos hc).symm.trans h
        have z := ih a0 a1 a2 a3 (a4 + (1 : Int32)) M7 hB ra0 h
        exact ⟨hS.tr z.1, z.2⟩
      · have h := (if_neg hc).symm.trans h
        obtain ⟨hz, rfl⟩ := rN_some h
        exact ⟨hS, hB⟩
theorem oX16_saysSmall (fu : Nat)   (a0 : Nat) (a1 : Int32) (a2 : Int32) (a3 : Option Nat)  (M : Mm) {out : Int32 × Mm} (hB : Bd RM TM M) (ra0 : RM a0) (h : fX16_saysSmall fu  a0 a1 a2 a3 M = some out) : Sm RM M out.2 ∧ Bd RM TM out.2 := by
  unfold fX16_saysSmall at h
  have hS : Sm RM M M := Sm.rf
  obtain ⟨q1, eq1, h⟩ := bd h
  obtain ⟨v3, M2, eM2, h⟩ := b2d h
  have w := oJ0_length_8abf5 fu q1  M hB  eM2
  have hS := hS.tr w.1
  have hB := w.2
  by_cases hc : (a2 - a1) = v3
  · have h := (if_pos hc).symm.trans h
    have z := oX16_saysSmall_L15 fu   fu a0 a1 a2 a3 a1 M2 hB ra0 h
    exact ⟨hS.tr z.1, z.2⟩
  · have h := (if_neg hc).symm.trans h
    obtain ⟨hz, rfl⟩ := rN_some h
    exact ⟨hS, hB⟩
theorem oX16_contentLength_L80 (fu : Nat)   (a0 : Nat) (a3 : Int32) (a4 : Int32)  (M : Mm) {out : Mm} (hB : Bd RM TM M) (ra0 : RM a0) (h : fX16_contentLength_L80 fu  a0 a3 a4 M = some out) : Sm RM M out ∧ Bd RM TM out := by
  unfold fX16_contentLength_L80 at h
  have hS : Sm RM M M := Sm.rf
  by_cases hc : a4 = 0
  · have h := (if_pos hc).symm.trans h
    obtain ⟨M3, eM3, h⟩ := bd h
    have w := pZ_own hB (show 12 ≤ 16 ∧ 16 ≤ 16 from by decide) eM3
    have hS := hS.tr w.1
    have hB := w.2
    obtain rfl := Option.some.inj h
    exact ⟨hS, hB⟩
  · have h := (if_neg hc).symm.trans h
    by_cases hc : a3 ≤ (65536 : Int32)
    · have h := (if_pos hc).symm.trans h
      obtain ⟨M1, eM1, h⟩ := bd h
      have w := pF_own hB (show 12 ≤ 16 ∧ 16 ≤ 16 from by decide) eM1
      have hS := hS.tr w.1
      have hB := w.2
      obtain rfl := Option.some.inj h
      exact ⟨hS, hB⟩
    · have h := (if_neg hc).symm.trans h
      obtain ⟨M2, eM2, h⟩ := bd h
      have w := pZ_own hB (show 12 ≤ 16 ∧ 16 ≤ 16 from by decide) eM2
      have hS := hS.tr w.1
      have hB := w.2
      obtain rfl := Option.some.inj h
      exact ⟨hS, hB⟩
theorem oX16_contentLength_L37 (fu : Nat) {out : Mm}   : ∀ (n : Nat) (a0 : Nat) (a2 : Int32) (a3 : Int32) (a4 : Int32) (a5 : Int32)  (M : Mm), Bd RM TM M → RM a0 → fX16_contentLength_L37 fu  n a0 a2 a3 a4 a5 M = some out → Sm RM M out ∧ Bd RM TM out := by
  intro n
  induction n with
  | zero =>
    intro a0 a2 a3 a4 a5 M hB ra0 h
    have h : (none : Option (Mm)) = some out := h
    cases h
  | succ n ih =>
    intro a0 a2 a3 a4 a5 M hB ra0 h
    rw [fX16_contentLength_L37] at h
    have hS : Sm RM M M := Sm.rf
    by_cases hc : a2 ≤ a5
    · have h := (if_pos hc).symm.trans h
      have z := oX16_contentLength_L80 fu   a0 a3 a4 M hB ra0 h
      exact ⟨hS.tr z.1, z.2⟩
    · have h := (if_neg hc).symm.trans h
      by_cases hc : a4 = 0
      · have h := (if_pos hc).symm.trans h
        have z := oX16_contentLength_L80 fu   a0 a3 a4 M hB ra0 h
        exact ⟨hS.tr z.1, z.2⟩
      · have h := (if_neg hc).symm.trans h
        obtain ⟨q1, eq1, h⟩ := bd h
        have rq1 := rc_in hB (show 12 ≤ 16 ∧ 16 ≤ 16 from by decide) eq1
        obtain ⟨v3, M2, eM2, h⟩ := b2d h
        have w := oX16_headAt fu q1 a5 M hB rq1 eM2
        have hS := hS.tr w.1
        have hB := w.2
        obtain ⟨v5, M4, eM4, h⟩ := b2d h
        have w := oX16_isDigit fu  v3 M2 hB  eM4
        have hS := hS.tr w.1
        have hB := w.2
        obtain ⟨q6, eq6, h⟩ := bd h
        have rq6 := rc_in hB (show 12 ≤ 16 ∧ 16 ≤ 16 from by decide) eq6
        obtain ⟨v8, M7, eM7, h⟩ := b2d h
        have w := oX16_headAt fu q6 a5 M4 hB rq6 eM7
        have hS := hS.tr w.1
        have hB := w.2
        obtain ⟨v9, ev9, h⟩ := bd h
        have z := ih a0 a2 v9 v5 (a5 + (1 : Int32)) M7 hB ra0 h
        exact ⟨hS.tr z.1, z.2⟩
theorem oX16_contentLength_L32 (fu : Nat)   (a0 : Nat) (a1 : Int32) (a2 : Int32) (a3 : Int32) (s0 : Int32) (M : Mm) {out : Mm} (hB : Bd RM TM M) (ra0 : RM a0) (h : fX16_contentLength_L32 fu  a0 a1 a2 a3 s0 M = some out) : Sm RM M out ∧ Bd RM TM out := by
  unfold fX16_contentLength_L32 at h
  have hS : Sm RM M M := Sm.rf
  have z := oX16_contentLength_L37 fu   fu a0 a2 a3 s0 a1 M hB ra0 h
  exact ⟨hS.tr z.1, z.2⟩
theorem oX16_contentLength_L31 (fu : Nat)   (a0 : Nat) (a1 : Int32) (a2 : Int32) (a3 : Int32)  (M : Mm) {out : Mm} (hB : Bd RM TM M) (ra0 : RM a0) (h : fX16_contentLength_L31 fu  a0 a1 a2 a3 M = some out) : Sm RM M out ∧ Bd RM TM out := by
  unfold fX16_contentLength_L31 at h
  have hS : Sm RM M M := Sm.rf
  have z := oX16_contentLength_L32 fu   a0 a1 a2 a3 (0 : Int32) M hB ra0 h
  exact ⟨hS.tr z.1, z.2⟩
theorem oX16_contentLength (fu : Nat)   (a0 : Nat) (a1 : Int32) (a2 : Int32)  (M : Mm) {out : Mm} (hB : Bd RM TM M) (ra0 : RM a0) (h : fX16_contentLength fu  a0 a1 a2 M = some out) : Sm RM M out ∧ Bd RM TM out := by
  unfold fX16_contentLength at h
  have hS : Sm RM M M := Sm.rf
  obtain ⟨v1, ev1, h⟩ := bd h
  obtain ⟨M2, eM2, h⟩ := bd h
  have w := pF_own hB (show 12 ≤ 16 ∧ 16 ≤ 16 from by decide) eM2
  have hS := hS.tr w.1
  have hB := w.2
  by_cases hc : (a2 - a1) < (1 : Int32)
  · have h := (if_pos hc).symm.trans h
    have z := oX16_contentLength_L31 fu   a0 a1 a2 (0 : Int32) M2 hB ra0 h
    exact ⟨hS.tr z.1, z.2⟩
  · have h := (if_neg hc).symm.trans h
    by_cases hc : (9 : Int32) < (a2 - a1)
    · have h := (if_pos hc).symm.trans h
      have z := oX16_contentLength_L31 fu   a0 a1 a2 (0 : Int32) M2 hB ra0 h
      exact ⟨hS.tr z.1, z.2⟩
    · have h := (if_neg hc).symm.trans h
      have z := oX16_contentLength_L32 fu   a0 a1 a2 (0 : Int32) (1 : Int32) M2 hB ra0 h
      exact ⟨hS.tr z.1, z.2⟩
theorem oX16_words_L81 (fu : Nat) {out : Mm} (k5 : Nat → Int32 → Int32 → Int32 → Mm → Option (Mm)) (hk5 : ∀ (b0 : Nat) (b2 : Int32) (b3 : Int32) (b4 : Int32)  (M : Mm), Bd RM TM M → RM b0 → k5 b0 b2 b3 b4 M = some out → Sm RM M out ∧ Bd RM TM out) (a0 : Nat) (a2 : Int32) (a3 : Int32) (a4 : Int32)  (M : Mm) (hB : Bd RM TM M) (ra0 : RM a0) (h : fX16_words_L81 fu k5 a0 a2 a3 a4 M = some out) : Sm RM M out ∧ Bd RM TM out := by
  unfold fX16_words_L81 at h
  have hS : Sm RM M M := Sm.rf
  have z := hk5 a0 a2 a3 (a4 + (1 : Int32)) M hB ra0 h
  exact ⟨hS.tr z.1, z.2⟩
theorem oX16_words_L76 (fu : Nat) {out : Mm} (k5 : Nat → Int32 → Int32 → Int32 → Mm → Option (Mm)) (hk5 : ∀ (b0 : Nat) (b2 : Int32) (b3 : Int32) (b4 : Int32)  (M : Mm), Bd RM TM M → RM b0 → k5 b0 b2 b3 b4 M = some out → Sm RM M out ∧ Bd RM TM out) (a0 : Nat) (a2 : Int32) (a4 : Int32)  (M : Mm) (hB : Bd RM TM M) (ra0 : RM a0) (h : fX16_words_L76 fu k5 a0 a2 a4 M = some out) : Sm RM M out ∧ Bd RM TM out := by
  unfold fX16_words_L76 at h
  have hS : Sm RM M M := Sm.rf
  have z := oX16_words_L81 fu k5 hk5 a0 a2 (a4 + (1 : Int32)) a4 M hB ra0 h
  exact ⟨hS.tr z.1, z.2⟩
theorem oX16_words_L58 (fu : Nat) {out : Mm} (k5 : Nat → Int32 → Int32 → Int32 → Mm → Option (Mm)) (hk5 : ∀ (b0 : Nat) (b2 : Int32) (b3 : Int32) (b4 : Int32)  (M : Mm), Bd RM TM M → RM b0 → k5 b0 b2 b3 b4 M = some out → Sm RM M out ∧ Bd RM TM out) (a0 : Nat) (a2 : Int32) (a3 : Int32) (a4 : Int32)  (M : Mm) (hB : Bd RM TM M) (ra0 : RM a0) (h : fX16_words_L58 fu k5 a0 a2 a3 a4 M = some out) : Sm RM M out ∧ Bd RM TM out := by
  unfold fX16_words_L58 at h
  have hS : Sm RM M M := Sm.rf
  obtain ⟨q1, eq1, h⟩ := bd h
  have rq1 := rc_in hB (show 12 ≤ 16 ∧ 16 ≤ 16 from by decide) eq1
  obtain ⟨v3, M2, eM2, h⟩ := b2d h
  have w := oX16_saysSmall fu q1 a3 a4 (some 11) M hB rq1 eM2
  have hS := hS.tr w.1
  have hB := w.2
  by_cases hc : v3 = 0
  · have h := (if_pos hc).symm.trans h
    have z := oX16_words_L76 fu k5 hk5 a0 a2 a4 M2 hB ra0 h
    exact ⟨hS.tr z.1, z.2⟩
  · have h := (if_neg hc).symm.trans h
    obtain ⟨M4, eM4, h⟩ := bd h
    have w := pZ_own hB (show 12 ≤ 16 ∧ 16 ≤ 16 from by decide) eM4
    have hS := hS.tr w.1
    have hB := w.2
    have z := oX16_words_L76 fu k5 hk5 a0 a2 a4 M4 hB ra0 h
    exact ⟨hS.tr z.1, z.2⟩
theorem oX16_words_L40 (fu : Nat) {out : Mm} (k5 : Nat → Int32 → Int32 → Int32 → Mm → Option (Mm)) (hk5 : ∀ (b0 : Nat) (b2 : Int32) (b3 : Int32) (b4 : Int32)  (M : Mm), Bd RM TM M → RM b0 → k5 b0 b2 b3 b4 M = some out → Sm RM M out ∧ Bd RM TM out) (a0 : Nat) (a2 : Int32) (a3 : Int32) (a4 : Int32)  (M : Mm) (hB : Bd RM TM M) (ra0 : RM a0) (h : fX16_words_L40 fu k5 a0 a2 a3 a4 M = some out) : Sm RM M out ∧ Bd RM TM out := by
  unfold fX16_words_L40 at h
  have hS : Sm RM M M := Sm.rf
  obtain ⟨q1, eq1, h⟩ := bd h
  have rq1 := rc_in hB (show 12 ≤ 16 ∧ 16 ≤ 16 from by decide) eq1
  obtain ⟨v3, M2, eM2, h⟩ := b2d h
  have w := oX16_saysSmall fu q1 a3 a4 (some 10) M hB rq1 eM2
  have hS := hS.tr w.1
  have hB := w.2
  by_cases hc : v3 = 0
  · have h := (if_pos hc).symm.trans h
    have z := oX16_words_L58 fu k5 hk5 a0 a2 a3 a4 M2 hB ra0 h
    exact ⟨hS.tr z.1, z.2⟩
  · have h := (if_neg hc).symm.trans h
    obtain ⟨M4, eM4, h⟩ := bd h
    have w := pZ_own hB (show 12 ≤ 16 ∧ 16 ≤ 16 from by decide) eM4
    have hS := hS.tr w.1
    have hB := w.2
    have z := oX16_words_L58 fu k5 hk5 a0 a2 a3 a4 M4 hB ra0 h
    exact ⟨hS.tr z.1, z.2⟩
theorem oX16_words_L5 (fu : Nat) {out : Mm}   : ∀ (n : Nat) (a0 : Nat) (a2 : Int32) (a3 : Int32) (a4 : Int32)  (M : Mm), Bd RM TM M → RM a0 → fX16_words_L5 fu  n a0 a2 a3 a4 M = some out → Sm RM M out ∧ Bd RM TM out := by
  intro n
  induction n with
  | zero =>
    intro a0 a2 a3 a4 M hB ra0 h
    have h : (none : Option (Mm)) = some out := h
    cases h
  | succ n ih =>
    intro a0 a2 a3 a4 M hB ra0 h
    rw [fX16_words_L5] at h
    have hS : Sm RM M M := Sm.rf
    by_cases hc : a2 < a4
    · have h := (if_pos hc).symm.trans h
      obtain rfl := Option.some.inj h
      exact ⟨hS, hB⟩
    · have h := (if_neg hc).symm.trans h
      by_cases hc : a4 = a2
      · have h := (if_pos hc).symm.trans h
        have z := oX16_words_L40 fu (fun b0 b2 b3 b4 M => fX16_words_L5 fu  n b0 b2 b3 b4 M) ih a0 a2 a3 a4 M hB ra0 h
        exact ⟨hS.tr z.1, z.2⟩
      · have h := (if_neg hc).symm.trans h
        obtain ⟨q1, eq1, h⟩ := bd h
        have rq1 := rc_in hB (show 12 ≤ 16 ∧ 16 ≤ 16 from by decide) eq1
        obtain ⟨v3, M2, eM2, h⟩ := b2d h
        have w := oX16_headAt fu q1 a4 M hB rq1 eM2
        have hS := hS.tr w.1
        have hB := w.2
        by_cases hc : v3 = (44 : Int32)
        · have h := (if_pos hc).symm.trans h
          have z := oX16_words_L40 fu (fun b0 b2 b3 b4 M => fX16_words_L5 fu  n b0 b2 b3 b4 M) ih a0 a2 a3 a4 M2 hB ra0 h
          exact ⟨hS.tr z.1, z.2⟩
        · have h := (if_neg hc).symm.trans h
          obtain ⟨q4, eq4, h⟩ := bd h
          have rq4 := rc_in hB (show 12 ≤ 16 ∧ 16 ≤ 16 from by decide) eq4
          obtain ⟨v6, M5, eM5, h⟩ := b2d h
          have w := oX16_headAt fu q4 a4 M2 hB rq4 eM5
          have hS := hS.tr w.1
          have hB := w.2
          obtain ⟨v8, M7, eM7, h⟩ := b2d h
          have w := oX16_isBlank fu  v6 M5 hB  eM7
          have hS := hS.tr w.1
          have hB := w.2
          by_cases hc : v8 = 0
          · have h := (if_pos hc).symm.trans h
            have z := oX16_words_L81 fu (fun b0 b2 b3 b4 M => fX16_words_L5 fu  n b0 b2 b3 b4 M) ih a0 a2 a3 a4 M7 hB ra0 h
            exact ⟨hS.tr z.1, z.2⟩
          · have h := (if_neg hc).symm.trans h
            have z := oX16_words_L40 fu (fun b0 b2 b3 b4 M => fX16_words_L5 fu  n b0 b2 b3 b4 M) ih a0 a2 a3 a4 M7 hB ra0 h
            exact ⟨hS.tr z.1, z.2⟩
theorem oX16_words (fu : Nat)   (a0 : Nat) (a1 : Int32) (a2 : Int32)  (M : Mm) {out : Mm} (hB : Bd RM TM M) (ra0 : RM a0) (h : fX16_words fu  a0 a1 a2 M = some out) : Sm RM M out ∧ Bd RM TM out := by
  unfold fX16_words at h
  have hS : Sm RM M M := Sm.rf
  have z := oX16_words_L5 fu   fu a0 a2 a1 a1 M hB ra0 h
  exact ⟨hS.tr z.1, z.2⟩
theorem oX16_field_L234 (fu : Nat)   (a0 : Nat) (a1 : Int32) (a3 : Int32) (a4 : Int32) (a5 : Int32)  (M : Mm) {out : Int32 × Mm} (hB : Bd RM TM M) (ra0 : RM a0) (h : fX16_field_L234 fu  a0 a1 a3 a4 a5 M = some out) : Sm RM M out.2 ∧ Bd RM TM out.2 := by
  unfold fX16_field_L234 at h
  have hS : Sm RM M M := Sm.rf
  obtain ⟨q1, eq1, h⟩ := bd h
  have rq1 := rc_in hB (show 12 ≤ 16 ∧ 16 ≤ 16 from by decide) eq1
  obtain ⟨v3, M2, eM2, h⟩ := b2d h
  have w := oX16_saysSmall fu q1 a1 a3 (some 8) M hB rq1 eM2
  have hS := hS.tr w.1
  have hB := w.2
  by_cases hc : v3 = 0
  · have h := (if_pos hc).symm.trans h
    obtain ⟨hz, rfl⟩ := rN_some h
    exact ⟨hS, hB⟩
  · have h := (if_neg hc).symm.trans h
    obtain ⟨v4, ev4, h⟩ := bd h
    obtain ⟨M5, eM5, h⟩ := bd h
    have w := pF_own hB (show 12 ≤ 16 ∧ 16 ≤ 16 from by decide) eM5
    have hS := hS.tr w.1
    have hB := w.2
    obtain ⟨M6, eM6, h⟩ := bd h
    have w := pF_own hB (show 12 ≤ 16 ∧ 16 ≤ 16 from by decide) eM6
    have hS := hS.tr w.1
    have hB := w.2
    obtain ⟨M7, eM7, h⟩ := bd h
    have w := pF_own hB (show 12 ≤ 16 ∧ 16 ≤ 16 from by decide) eM7
    have hS := hS.tr w.1
    have hB := w.2
    obtain ⟨hz, rfl⟩ := rN_some h
    exact ⟨hS, hB⟩
theorem oX16_field_L214 (fu : Nat)   (a0 : Nat) (a1 : Int32) (a3 : Int32) (a4 : Int32) (a5 : Int32)  (M : Mm) {out : Int32 × Mm} (hB : Bd RM TM M) (ra0 : RM a0) (h : fX16_field_L214 fu  a0 a1 a3 a4 a5 M = some out) : Sm RM M out.2 ∧ Bd RM TM out.2 := by
  unfold fX16_field_L214 at h
  have hS : Sm RM M M := Sm.rf
  obtain ⟨q1, eq1, h⟩ := bd h
  have rq1 := rc_in hB (show 12 ≤ 16 ∧ 16 ≤ 16 from by decide) eq1
  obtain ⟨v3, M2, eM2, h⟩ := b2d h
  have w := oX16_saysSmall fu q1 a1 a3 (some 9) M hB rq1 eM2
  have hS := hS.tr w.1
  have hB := w.2
  by_cases hc : v3 = 0
  · have h := (if_pos hc).symm.trans h
    have z := oX16_field_L234 fu   a0 a1 a3 a4 a5 M2 hB ra0 h
    exact ⟨hS.tr z.1, z.2⟩
  · have h := (if_neg hc).symm.trans h
    obtain ⟨q4, eq4, h⟩ := bd h
    have rq4 := rc_in hB (show 12 ≤ 16 ∧ 16 ≤ 16 from by decide) eq4
    obtain ⟨M5, eM5, h⟩ := bd h
    have w := oX16_words fu q4 a4 a5 M2 hB rq4 eM5
    have hS := hS.tr w.1
    have hB := w.2
    have z := oX16_field_L234 fu   a0 a1 a3 a4 a5 M5 hB ra0 h
    exact ⟨hS.tr z.1, z.2⟩
theorem oX16_field_L194 (fu : Nat)   (a0 : Nat) (a1 : Int32) (a3 : Int32) (a4 : Int32) (a5 : Int32)  (M : Mm) {out : Int32 × Mm} (hB : Bd RM TM M) (ra0 : RM a0) (h : fX16_field_L194 fu  a0 a1 a3 a4 a5 M = some out) : Sm RM M out.2 ∧ Bd RM TM out.2 := by
  unfold fX16_field_L194 at h
  have hS : Sm RM M M := Sm.rf
  obtain ⟨q1, eq1, h⟩ := bd h
  have rq1 := rc_in hB (show 12 ≤ 16 ∧ 16 ≤ 16 from by decide) eq1
  obtain ⟨v3, M2, eM2, h⟩ := b2d h
  have w := oX16_saysSmall fu q1 a1 a3 (some 7) M hB rq1 eM2
  have hS := hS.tr w.1
  have hB := w.2
  by_cases hc : v3 = 0
  · have h := (if_pos hc).symm.trans h
    have z := oX16_field_L214 fu   a0 a1 a3 a4 a5 M2 hB ra0 h
    exact ⟨hS.tr z.1, z.2⟩
  · have h := (if_neg hc).symm.trans h
    obtain ⟨q4, eq4, h⟩ := bd h
    have rq4 := rc_in hB (show 12 ≤ 16 ∧ 16 ≤ 16 from by decide) eq4
    obtain ⟨M5, eM5, h⟩ := bd h
    have w := oX16_contentLength fu q4 a4 a5 M2 hB rq4 eM5
    have hS := hS.tr w.1
    have hB := w.2
    have z := oX16_field_L214 fu   a0 a1 a3 a4 a5 M5 hB ra0 h
    exact ⟨hS.tr z.1, z.2⟩
theorem oX16_field_L177 (fu : Nat)   (a0 : Nat) (a1 : Int32) (a3 : Int32) (a4 : Int32) (a5 : Int32)  (M : Mm) {out : Int32 × Mm} (hB : Bd RM TM M) (ra0 : RM a0) (h : fX16_field_L177 fu  a0 a1 a3 a4 a5 M = some out) : Sm RM M out.2 ∧ Bd RM TM out.2 := by
  unfold fX16_field_L177 at h
  have hS : Sm RM M M := Sm.rf
  obtain ⟨q1, eq1, h⟩ := bd h
  have rq1 := rc_in hB (show 12 ≤ 16 ∧ 16 ≤ 16 from by decide) eq1
  obtain ⟨v3, M2, eM2, h⟩ := b2d h
  have w := oX16_saysSmall fu q1 a1 a3 (some 6) M hB rq1 eM2
  have hS := hS.tr w.1
  have hB := w.2
  by_cases hc : v3 = 0
  · have h := (if_pos hc).symm.trans h
    have z := oX16_field_L194 fu   a0 a1 a3 a4 a5 M2 hB ra0 h
    exact ⟨hS.tr z.1, z.2⟩
  · have h := (if_neg hc).symm.trans h
    obtain ⟨M4, eM4, h⟩ := bd h
    have w := pZ_own hB (show 12 ≤ 16 ∧ 16 ≤ 16 from by decide) eM4
    have hS := hS.tr w.1
    have hB := w.2
    have z := oX16_field_L194 fu   a0 a1 a3 a4 a5 M4 hB ra0 h
    exact ⟨hS.tr z.1, z.2⟩
theorem oX16_field_L155 (fu : Nat)   (a0 : Nat) (a1 : Int32) (a3 : Int32) (a4 : Int32) (a5 : Int32)  (M : Mm) {out : Int32 × Mm} (hB : Bd RM TM M) (ra0 : RM a0) (h : fX16_field_L155 fu  a0 a1 a3 a4 a5 M = some out) : Sm RM M out.2 ∧ Bd RM TM out.2 := by
  unfold fX16_field_L155 at h
  have hS : Sm RM M M := Sm.rf
  obtain ⟨q1, eq1, h⟩ := bd h
  have rq1 := rc_in hB (show 12 ≤ 16 ∧ 16 ≤ 16 from by decide) eq1
  obtain ⟨v3, M2, eM2, h⟩ := b2d h
  have w := oX16_saysSmall fu q1 a1 a3 (some 5) M hB rq1 eM2
  have hS := hS.tr w.1
  have hB := w.2
  by_cases hc : v3 = 0
  · have h := (if_pos hc).symm.trans h
    have z := oX16_field_L177 fu   a0 a1 a3 a4 a5 M2 hB ra0 h
    exact ⟨hS.tr z.1, z.2⟩
  · have h := (if_neg hc).symm.trans h
    obtain ⟨v4, ev4, h⟩ := bd h
    obtain ⟨M5, eM5, h⟩ := bd h
    have w := pF_own hB (show 12 ≤ 16 ∧ 16 ≤ 16 from by decide) eM5
    have hS := hS.tr w.1
    have hB := w.2
    have z := oX16_field_L177 fu   a0 a1 a3 a4 a5 M5 hB ra0 h
    exact ⟨hS.tr z.1, z.2⟩
theorem oX16_field_L128 (fu : Nat) {out : Int32 × Mm}   : ∀ (n : Nat) (a0 : Nat) (a1 : Int32) (a3 : Int32) (a4 : Int32) (a5 : Int32)  (M : Mm), Bd RM TM M → RM a0 → fX16_field_L128 fu  n a0 a1 a3 a4 a5 M = some out → Sm RM M out.2 ∧ Bd RM TM out.2 := by
  intro n
  induction n with
  | zero =>
    intro a0 a1 a3 a4 a5 M hB ra0 h
    have h : (none : Option (Int32 × Mm)) = some out := h
    cases h
  | succ n ih =>
    intro a0 a1 a3 a4 a5 M hB ra0 h
    rw [fX16_field_L128] at h
    have hS : Sm RM M M := Sm.rf
    by_cases hc : a5 ≤ a4
    · have h := (if_pos hc).symm.trans h
      have z := oX16_field_L155 fu   a0 a1 a3 a4 a5 M hB ra0 h
      exact ⟨hS.tr z.1, z.2⟩
    · have h := (if_neg hc).symm.trans h
      obtain ⟨q1, eq1, h⟩ := bd h
      have rq1 := rc_in hB (show 12 ≤ 16 ∧ 16 ≤ 16 from by decide) eq1
      obtain ⟨v3, M2, eM2, h⟩ := b2d h
      have w := oX16_headAt fu q1 (a5 - (1 : Int32)) M hB rq1 eM2
      have hS := hS.tr w.1
      have hB := w.2
      obtain ⟨v5, M4, eM4, h⟩ := b2d h
      have w := oX16_isBlank fu  v3 M2 hB  eM4
      have hS := hS.tr w.1
      have hB := w.2
      by_cases hc : v5 = 0
      · have h := (if_pos hc).symm.trans h
        have z := oX16_field_L155 fu   a0 a1 a3 a4 a5 M4 hB ra0 h
        exact ⟨hS.tr z.1, z.2⟩
      · have h := (if_neg hc).symm.trans h
        have z := ih a0 a1 a3 a4 (a5 + (-1 : Int32)) M4 hB ra0 h
        exact ⟨hS.tr z.1, z.2⟩
theorem oX16_field_L103 (fu : Nat) {out : Int32 × Mm}   : ∀ (n : Nat) (a0 : Nat) (a1 : Int32) (a3 : Int32) (a4 : Int32) (a5 : Int32)  (M : Mm), Bd RM TM M → RM a0 → fX16_field_L103 fu  n a0 a1 a3 a4 a5 M = some out → Sm RM M out.2 ∧ Bd RM TM out.2 := by
  intro n
  induction n with
  | zero =>
    intro a0 a1 a3 a4 a5 M hB ra0 h
    have h : (none : Option (Int32 × Mm)) = some out := h
    cases h
  | succ n ih =>
    intro a0 a1 a3 a4 a5 M hB ra0 h
    rw [fX16_field_L103] at h
    have hS : Sm RM M M := Sm.rf
    by_cases hc : a5 ≤ a4
    · have h := (if_pos hc).symm.trans h
      have z := oX16_field_L128 fu   fu a0 a1 a3 a4 a5 M hB ra0 h
      exact ⟨hS.tr z.1, z.2⟩
    · have h := (if_neg hc).symm.trans h
      obtain ⟨q1, eq1, h⟩ := bd h
      have rq1 := rc_in hB (show 12 ≤ 16 ∧ 16 ≤ 16 from by decide) eq1
      obtain ⟨v3, M2, eM2, h⟩ := b2d h
      have w := oX16_headAt fu q1 a4 M hB rq1 eM2
      have hS := hS.tr w.1
      have hB := w.2
      obtain ⟨v5, M4, eM4, h⟩ := b2d h
      have w := oX16_isBlank fu  v3 M2 hB  eM4
      have hS := hS.tr w.1
      have hB := w.2
      by_cases hc : v5 = 0
      · have h := (if_pos hc).symm.trans h
        have z := oX16_field_L128 fu   fu a0 a1 a3 a4 a5 M4 hB ra0 h
        exact ⟨hS.tr z.1, z.2⟩
      · have h := (if_neg hc).symm.trans h
        have z := ih a0 a1 a3 (a4 + (1 : Int32)) a5 M4 hB ra0 h
        exact ⟨hS.tr z.1, z.2⟩
theorem oX16_field_L97 (fu : Nat) {out : Int32 × Mm} (k59 : Nat → Int32 → Int32 → Int32 → Int32 → Int32 → Mm → Option (Int32 × Mm)) (hk59 : ∀ (b0 : Nat) (b1 : Int32) (b3 : Int32) (b4 : Int32) (b5 : Int32) (b6 : Int32)  (M : Mm), Bd RM TM M → RM b0 → k59 b0 b1 b3 b4 b5 b6 M = some out → Sm RM M out.2 ∧ Bd RM TM out.2) (a0 : Nat) (a1 : Int32) (a3 : Int32) (a4 : Int32) (a5 : Int32) (a6 : Int32)  (M : Mm) (hB : Bd RM TM M) (ra0 : RM a0) (h : fX16_field_L97 fu k59 a0 a1 a3 a4 a5 a6 M = some out) : Sm RM M out.2 ∧ Bd RM TM out.2 := by
  unfold fX16_field_L97 at h
  have hS : Sm RM M M := Sm.rf
  have z := hk59 a0 a1 a3 a4 a5 (a6 + (1 : Int32)) M hB ra0 h
  exact ⟨hS.tr z.1, z.2⟩
theorem oX16_field_L59 (fu : Nat) {out : Int32 × Mm}   : ∀ (n : Nat) (a0 : Nat) (a1 : Int32) (a3 : Int32) (a4 : Int32) (a5 : Int32) (a6 : Int32)  (M : Mm), Bd RM TM M → RM a0 → fX16_field_L59 fu  n a0 a1 a3 a4 a5 a6 M = some out → Sm RM M out.2 ∧ Bd RM TM out.2 := by
  intro n
  induction n with
  | zero =>
    intro a0 a1 a3 a4 a5 a6 M hB ra0 h
    have h : (none : Option (Int32 × Mm)) = some out := h
    cases h
  | succ n ih =>
    intro a0 a1 a3 a4 a5 a6 M hB ra0 h
    rw [fX16_field_L59] at h
    have hS : Sm RM M M := Sm.rf
    by_cases hc : a5 ≤ a6
    · have h := (if_pos hc).symm.trans h
      have z := oX16_field_L103 fu   fu a0 a1 a3 a4 a5 M hB ra0 h
      exact ⟨hS.tr z.1, z.2⟩
    · have h := (if_neg hc).symm.trans h
      obtain ⟨q1, eq1, h⟩ := bd h
      have rq1 := rc_in hB (show 12 ≤ 16 ∧ 16 ≤ 16 from by decide) eq1
      obtain ⟨v3, M2, eM2, h⟩ := b2d h
      have w := oX16_headAt fu q1 a6 M hB rq1 eM2
      have hS := hS.tr w.1
      have hB := w.2
      by_cases hc : v3 = (9 : Int32)
      · have h := (if_pos hc).symm.trans h
        have z := oX16_field_L97 fu (fun b0 b1 b3 b4 b5 b6 M => fX16_field_L59 fu  n b0 b1 b3 b4 b5 b6 M) ih a0 a1 a3 a4 a5 a6 M2 hB ra0 h
        exact ⟨hS.tr z.1, z.2⟩
      · have h := (if_neg hc).symm.trans h
        by_cases hc : v3 < (32 : Int32)
        · have h := (if_pos hc).symm.trans h
          obtain ⟨hz, rfl⟩ := rN_some h
          exact ⟨hS, hB⟩
        · have h := (if_neg hc).symm.trans h
          by_cases hc : v3 = (127 : Int32)
          · have h := (if_pos hc).symm.trans h
            obtain ⟨hz, rfl⟩ := rN_some h
            exact ⟨hS, hB⟩
          · have h := (if_neg hc).symm.trans h
            have z := oX16_field_L97 fu (fun b0 b1 b3 b4 b5 b6 M => fX16_field_L59 fu  n b0 b1 b3 b4 b5 b6 M) ih a0 a1 a3 a4 a5 a6 M2 hB ra0 h
            exact ⟨hS.tr z.1, z.2⟩
theorem oX16_field_L24 (fu : Nat)   (a0 : Nat) (a1 : Int32) (a2 : Int32) (a3 : Int32)  (M : Mm) {out : Int32 × Mm} (hB : Bd RM TM M) (ra0 : RM a0) (h : fX16_field_L24 fu  a0 a1 a2 a3 M = some out) : Sm RM M out.2 ∧ Bd RM TM out.2 := by
  unfold fX16_field_L24 at h
  have hS : Sm RM M M := Sm.rf
  by_cases hc : a3 = a1
  · have h := (if_pos hc).symm.trans h
    obtain ⟨hz, rfl⟩ := rN_some h
    exact ⟨hS, hB⟩
  · have h := (if_neg hc).symm.trans h
    by_cases hc : a3 = a2
    · have h := (if_pos hc).symm.trans h
      obtain ⟨hz, rfl⟩ := rN_some h
      exact ⟨hS, hB⟩
    · have h := (if_neg hc).symm.trans h
      obtain ⟨v1, ev1, h⟩ := bd h
      have iv1 := gR_in hB (show 12 ≤ 16 ∧ 16 ≤ 16 from by decide) ev1
      obtain ⟨v2, ev2, h⟩ := bd h
      by_cases hc : v2 = (58 : Int32)
      · have h := (if_pos hc).symm.trans h
        have z := oX16_field_L59 fu   fu a0 a1 a3 (a3 + (1 : Int32)) a2 (a3 + (1 : Int32)) M hB ra0 h
        exact ⟨hS.tr z.1, z.2⟩
      · have h := (if_neg hc).symm.trans h
        obtain ⟨hz, rfl⟩ := rN_some h
        exact ⟨hS, hB⟩
theorem oX16_field_L2 (fu : Nat) {out : Int32 × Mm}   : ∀ (n : Nat) (a0 : Nat) (a1 : Int32) (a2 : Int32) (a3 : Int32)  (M : Mm), Bd RM TM M → RM a0 → fX16_field_L2 fu  n a0 a1 a2 a3 M = some out → Sm RM M out.2 ∧ Bd RM TM out.2 := by
  intro n
  induction n with
  | zero =>
    intro a0 a1 a2 a3 M hB ra0 h
    have h : (none : Option (Int32 × Mm)) = some out := h
    cases h
  | succ n ih =>
    intro a0 a1 a2 a3 M hB ra0 h
    rw [fX16_field_L2] at h
    have hS : Sm RM M M := Sm.rf
    by_cases hc : a2 ≤ a3
    · have h := (if_pos hc).symm.trans h
      have z := oX16_field_L24 fu   a0 a1 a2 a3 M hB ra0 h
      exact ⟨hS.tr z.1, z.2⟩
    · have h := (if_neg hc).symm.trans h
      obtain ⟨q1, eq1, h⟩ := bd h
      have rq1 := rc_in hB (show 12 ≤ 16 ∧ 16 ≤ 16 from by decide) eq1
      obtain ⟨v3, M2, eM2, h⟩ := b2d h
      have w := oX16_headAt fu q1 a3 M hB rq1 eM2
      have hS := hS.tr w.1
      have hB := w.2
      obtain ⟨v5, M4, eM4, h⟩ := b2d h
      have w := oX16_isNameCode fu  v3 M2 hB  eM4
      have hS := hS.tr w.1
      have hB := w.2
      by_cases hc : v5 = 0
      · have h := (if_pos hc).symm.trans h
        have z := oX16_field_L24 fu   a0 a1 a2 a3 M4 hB ra0 h
        exact ⟨hS.tr z.1, z.2⟩
      · have h := (if_neg hc).symm.trans h
        have z := ih a0 a1 a2 (a3 + (1 : Int32)) M4 hB ra0 h
        exact ⟨hS.tr z.1, z.2⟩
theorem oX16_field (fu : Nat)   (a0 : Nat) (a1 : Int32) (a2 : Int32)  (M : Mm) {out : Int32 × Mm} (hB : Bd RM TM M) (ra0 : RM a0) (h : fX16_field fu  a0 a1 a2 M = some out) : Sm RM M out.2 ∧ Bd RM TM out.2 := by
  unfold fX16_field at h
  have hS : Sm RM M M := Sm.rf
  have z := oX16_field_L2 fu   fu a0 a1 a2 a1 M hB ra0 h
  exact ⟨hS.tr z.1, z.2⟩
theorem oX16_hexadecimal (fu : Nat)   (a0 : Int32)  (M : Mm) {out : Int32 × Mm} (hB : Bd RM TM M)  (h : fX16_hexadecimal fu  a0 M = some out) : Sm RM M out.2 ∧ Bd RM TM out.2 := by
  unfold fX16_hexadecimal at h
  have hS : Sm RM M M := Sm.rf
  obtain ⟨v2, M1, eM1, h⟩ := b2d h
  have w := oX16_isDigit fu  a0 M hB  eM1
  have hS := hS.tr w.1
  have hB := w.2
  by_cases hc : v2 = 0
  · have h := (if_pos hc).symm.trans h
    obtain ⟨v4, M3, eM3, h⟩ := b2d h
    have w := oX16_small fu  a0 M1 hB  eM3
    have hS := hS.tr w.1
    have hB := w.2
    by_cases hc : v4 < (97 : Int32)
    · have h := (if_pos hc).symm.trans h
      obtain rfl := Option.some.inj h
      exact ⟨hS, hB⟩
    · have h := (if_neg hc).symm.trans h
      obtain ⟨v6, M5, eM5, h⟩ := b2d h
      have w := oX16_small fu  a0 M3 hB  eM5
      have hS := hS.tr w.1
      have hB := w.2
      by_cases hc : (102 : Int32) < v6
      · have h := (if_pos hc).symm.trans h
        obtain rfl := Option.some.inj h
        exact ⟨hS, hB⟩
      · have h := (if_neg hc).symm.trans h
        obtain ⟨v8, M7, eM7, h⟩ := b2d h
        have w := oX16_small fu  a0 M5 hB  eM7
        have hS := hS.tr w.1
        have hB := w.2
        obtain rfl := Option.some.inj h
        exact ⟨hS, hB⟩
  · have h := (if_neg hc).symm.trans h
    obtain rfl := Option.some.inj h
    exact ⟨hS, hB⟩
