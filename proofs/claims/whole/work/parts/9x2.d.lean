/-! ===== what stays small, printed by a program of ours ===== -/
theorem dX16_answer_L351 (fu : Nat) {dn : Nat} {out : Mm}   (a0 : Nat) (a1 : Option Nat) (s0 : Option Nat) (s1 : Option Nat) (s2 : Int32) (s3 : Int32) (M : Mm) (hB : DP dn M) (h : fX16_answer_L351 fu  a0 a1 s0 s1 s2 s3 M = some out) : DP dn out := by
  unfold fX16_answer_L351 at h
  obtain ⟨q1, eq1, h⟩ := bd h
  obtain ⟨M2, eM2, h⟩ := bd h
  have hB := dX16_make fu q1 s1 s2 s3 M hB eM2
  obtain ⟨v3, ev3, h⟩ := bd h
  obtain ⟨q4, eq4, h⟩ := bd h
  obtain ⟨v6, M5, eM5, h⟩ := b2d h
  have hB := dX12_held fu q4  M2 hB eM5
  by_cases hc : (jmin v3 v6) ≤ 0
  · have h := (if_pos hc).symm.trans h
    obtain rfl := Option.some.inj h
    exact hB
  · have h := (if_neg hc).symm.trans h
    obtain ⟨v7, ev7, h⟩ := bd h
    obtain ⟨M8, eM8, h⟩ := bd h
    have hB := d_pF hB eM8 (by decide)
    obtain ⟨q9, eq9, h⟩ := bd h
    obtain ⟨M10, eM10, h⟩ := bd h
    have hB := dX16_take fu q9 a1 (jmin v3 v6) M8 hB eM10
    obtain rfl := Option.some.inj h
    exact hB
theorem dX16_answer_L346 (fu : Nat) {dn : Nat} {out : Mm}   (a0 : Nat) (a1 : Option Nat) (s0 : Option Nat) (s1 : Option Nat) (s2 : Int32) (M : Mm) (hB : DP dn M) (h : fX16_answer_L346 fu  a0 a1 s0 s1 s2 M = some out) : DP dn out := by
  unfold fX16_answer_L346 at h
  exact dX16_answer_L351 fu    a0 a1 s0 s1 s2 (1 : Int32) M hB h
theorem dX16_answer_L332 (fu : Nat) {dn : Nat} {out : Mm}   (a0 : Nat) (a1 : Option Nat) (a6 : Int32) (a7 : Int32) (a8 : Int32)  (M : Mm) (hB : DP dn M) (h : fX16_answer_L332 fu  a0 a1 a6 a7 a8 M = some out) : DP dn out := by
  unfold fX16_answer_L332 at h
  by_cases hc : a7 = 0
  · have h := (if_pos hc).symm.trans h
    by_cases hc : a8 = 0
    · have h := (if_pos hc).symm.trans h
      exact dX16_answer_L346 fu    a0 a1 (some a0) a1 a6 M hB h
    · have h := (if_neg hc).symm.trans h
      exact dX16_answer_L351 fu    a0 a1 (some a0) a1 a6 (0 : Int32) M hB h
  · have h := (if_neg hc).symm.trans h
    exact dX16_answer_L346 fu    a0 a1 (some a0) a1 a6 M hB h
theorem dX16_answer_L292 (fu : Nat) {dn : Nat} {out : Mm}   (a0 : Nat) (a1 : Option Nat) (a6 : Int32) (a7 : Int32) (s0 : Int32) (M : Mm) (hB : DP dn M) (h : fX16_answer_L292 fu  a0 a1 a6 a7 s0 M = some out) : DP dn out := by
  unfold fX16_answer_L292 at h
  obtain ⟨v1, ev1, h⟩ := bd h
  by_cases hc : v1 = (400 : Int32)
  · have h := (if_pos hc).symm.trans h
    exact dX16_answer_L332 fu    a0 a1 a6 a7 s0 M hB h
  · have h := (if_neg hc).symm.trans h
    obtain ⟨v2, ev2, h⟩ := bd h
    by_cases hc : v2 = (413 : Int32)
    · have h := (if_pos hc).symm.trans h
      exact dX16_answer_L332 fu    a0 a1 a6 a7 s0 M hB h
    · have h := (if_neg hc).symm.trans h
      obtain ⟨v3, ev3, h⟩ := bd h
      by_cases hc : v3 = (501 : Int32)
      · have h := (if_pos hc).symm.trans h
        exact dX16_answer_L332 fu    a0 a1 a6 a7 s0 M hB h
      · have h := (if_neg hc).symm.trans h
        obtain ⟨v4, ev4, h⟩ := bd h
        obtain ⟨M5, eM5, h⟩ := bd h
        have hB := d_pF hB eM5 (by decide)
        exact dX16_answer_L332 fu    a0 a1 a6 a7 s0 M5 hB h
theorem dX16_answer_L291 (fu : Nat) {dn : Nat} {out : Mm}   (a0 : Nat) (a1 : Option Nat) (a6 : Int32) (a7 : Int32)  (M : Mm) (hB : DP dn M) (h : fX16_answer_L291 fu  a0 a1 a6 a7 M = some out) : DP dn out := by
  unfold fX16_answer_L291 at h
  exact dX16_answer_L292 fu    a0 a1 a6 a7 (0 : Int32) M hB h
theorem dX16_answer_L287 (fu : Nat) {dn : Nat} {out : Mm}   (a0 : Nat) (a1 : Option Nat) (a6 : Int32) (a7 : Int32)  (M : Mm) (hB : DP dn M) (h : fX16_answer_L287 fu  a0 a1 a6 a7 M = some out) : DP dn out := by
  unfold fX16_answer_L287 at h
  exact dX16_answer_L292 fu    a0 a1 a6 a7 (1 : Int32) M hB h
theorem dX16_answer_L249 (fu : Nat) {dn : Nat} {out : Mm}   (a0 : Nat) (a1 : Option Nat) (a5 : Int32) (a6 : Int32) (s0 : Int32) (M : Mm) (hB : DP dn M) (h : fX16_answer_L249 fu  a0 a1 a5 a6 s0 M = some out) : DP dn out := by
  unfold fX16_answer_L249 at h
  by_cases hc : a5 = 0
  · have h := (if_pos hc).symm.trans h
    exact dX16_answer_L291 fu    a0 a1 a6 s0 M hB h
  · have h := (if_neg hc).symm.trans h
    obtain ⟨v1, ev1, h⟩ := bd h
    by_cases hc : v1 = 0
    · have h := (if_pos hc).symm.trans h
      obtain ⟨v2, ev2, h⟩ := bd h
      by_cases hc : v2 = 0
      · have h := (if_pos hc).symm.trans h
        exact dX16_answer_L287 fu    a0 a1 a6 s0 M hB h
      · have h := (if_neg hc).symm.trans h
        exact dX16_answer_L291 fu    a0 a1 a6 s0 M hB h
    · have h := (if_neg hc).symm.trans h
      obtain ⟨v3, ev3, h⟩ := bd h
      by_cases hc : v3 = 0
      · have h := (if_pos hc).symm.trans h
        exact dX16_answer_L291 fu    a0 a1 a6 s0 M hB h
      · have h := (if_neg hc).symm.trans h
        obtain ⟨v4, ev4, h⟩ := bd h
        by_cases hc : v4 = 0
        · have h := (if_pos hc).symm.trans h
          exact dX16_answer_L287 fu    a0 a1 a6 s0 M hB h
        · have h := (if_neg hc).symm.trans h
          exact dX16_answer_L291 fu    a0 a1 a6 s0 M hB h
theorem dX16_answer_L244 (fu : Nat) {dn : Nat} {out : Mm}   (a0 : Nat) (a1 : Option Nat) (a5 : Int32) (a6 : Int32)  (M : Mm) (hB : DP dn M) (h : fX16_answer_L244 fu  a0 a1 a5 a6 M = some out) : DP dn out := by
  unfold fX16_answer_L244 at h
  exact dX16_answer_L249 fu    a0 a1 a5 a6 (1 : Int32) M hB h
theorem dX16_answer_L204 (fu : Nat) {dn : Nat} {out : Mm}   (a0 : Nat) (a1 : Option Nat) (a5 : Int32) (a6 : Int32)  (M : Mm) (hB : DP dn M) (h : fX16_answer_L204 fu  a0 a1 a5 a6 M = some out) : DP dn out := by
  unfold fX16_answer_L204 at h
  obtain ⟨v1, ev1, h⟩ := bd h
  by_cases hc : v1 = (400 : Int32)
  · have h := (if_pos hc).symm.trans h
    exact dX16_answer_L244 fu    a0 a1 a5 a6 M hB h
  · have h := (if_neg hc).symm.trans h
    obtain ⟨v2, ev2, h⟩ := bd h
    by_cases hc : v2 = (413 : Int32)
    · have h := (if_pos hc).symm.trans h
      exact dX16_answer_L244 fu    a0 a1 a5 a6 M hB h
    · have h := (if_neg hc).symm.trans h
      obtain ⟨v3, ev3, h⟩ := bd h
      by_cases hc : v3 = (500 : Int32)
      · have h := (if_pos hc).symm.trans h
        exact dX16_answer_L244 fu    a0 a1 a5 a6 M hB h
      · have h := (if_neg hc).symm.trans h
        obtain ⟨v4, ev4, h⟩ := bd h
        by_cases hc : v4 = (501 : Int32)
        · have h := (if_pos hc).symm.trans h
          exact dX16_answer_L244 fu    a0 a1 a5 a6 M hB h
        · have h := (if_neg hc).symm.trans h
          exact dX16_answer_L249 fu    a0 a1 a5 a6 (0 : Int32) M hB h
theorem dX16_answer_L183 (fu : Nat) {dn : Nat} {out : Mm}   (a0 : Nat) (a1 : Option Nat) (a4 : Int32) (a5 : Int32) (a6 : Int32)  (M : Mm) (hB : DP dn M) (h : fX16_answer_L183 fu  a0 a1 a4 a5 a6 M = some out) : DP dn out := by
  unfold fX16_answer_L183 at h
  by_cases hc : a4 = 0
  · have h := (if_pos hc).symm.trans h
    obtain ⟨M4, eM4, h⟩ := bd h
    have hB := d_pF hB eM4 (by decide)
    exact dX16_answer_L204 fu    a0 a1 a5 a6 M4 hB h
  · have h := (if_neg hc).symm.trans h
    obtain ⟨q1, eq1, h⟩ := bd h
    obtain ⟨v3, M2, eM2, h⟩ := b2d h
    have hB := dX16_chosen fu q1  M hB eM2
    exact dX16_answer_L204 fu    a0 a1 a5 v3 M2 hB h
theorem dX16_answer_L180 (fu : Nat) {dn : Nat} {out : Mm} (k127 : Nat → Option Nat → Int32 → Int32 → Int32 → Int32 → Mm → Option (Mm)) (hk127 : ∀ (b0 : Nat) (b1 : Option Nat) (b3 : Int32) (b4 : Int32) (b5 : Int32) (b6 : Int32)  (M : Mm), DP dn M → k127 b0 b1 b3 b4 b5 b6 M = some out → DP dn out) (a0 : Nat) (a1 : Option Nat) (a3 : Int32) (a4 : Int32) (a5 : Int32) (a6 : Int32)  (M : Mm) (hB : DP dn M) (h : fX16_answer_L180 fu k127 a0 a1 a3 a4 a5 a6 M = some out) : DP dn out := by
  unfold fX16_answer_L180 at h
  exact hk127 a0 a1 a3 a4 a5 a6 M hB h
theorem dX16_answer_L127 (fu : Nat) {dn : Nat} {out : Mm}   : ∀ (n : Nat) (a0 : Nat) (a1 : Option Nat) (a3 : Int32) (a4 : Int32) (a5 : Int32) (a6 : Int32)  (M : Mm), DP dn M → fX16_answer_L127 fu  n a0 a1 a3 a4 a5 a6 M = some out → DP dn out := by
  intro n
  induction n with
  | zero =>
    intro a0 a1 a3 a4 a5 a6 M hB h
    have h : (none : Option (Mm)) = some out := h
    cases h
  | succ n ih =>
    intro a0 a1 a3 a4 a5 a6 M hB h
    rw [fX16_answer_L127] at h
    by_cases hc : a4 = 0
    · have h := (if_pos hc).symm.trans h
      exact dX16_answer_L183 fu    a0 a1 a4 a5 a6 M hB h
    · have h := (if_neg hc).symm.trans h
      obtain ⟨v1, ev1, h⟩ := bd h
      by_cases hc : v1 ≤ (a3 + (1 : Int32))
      · have h := (if_pos hc).symm.trans h
        exact dX16_answer_L183 fu    a0 a1 a4 a5 a6 M hB h
      · have h := (if_neg hc).symm.trans h
        obtain ⟨q2, eq2, h⟩ := bd h
        obtain ⟨v4, M3, eM3, h⟩ := b2d h
        have hB := dX16_lineEnd fu q2 (a3 + (1 : Int32)) M hB eM3
        obtain ⟨q5, eq5, h⟩ := bd h
        obtain ⟨v7, M6, eM6, h⟩ := b2d h
        have hB := dX16_shown fu q5 (a3 + (1 : Int32)) v4 M3 hB eM6
        by_cases hc : v7 ≤ (a3 + (1 : Int32))
        · have h := (if_pos hc).symm.trans h
          exact dX16_answer_L180 fu (fun b0 b1 b3 b4 b5 b6 M => fX16_answer_L127 fu  n b0 b1 b3 b4 b5 b6 M) ih  a0 a1 v4 a4 a5 a6 M6 hB h
        · have h := (if_neg hc).symm.trans h
          obtain ⟨q8, eq8, h⟩ := bd h
          obtain ⟨v10, M9, eM9, h⟩ := b2d h
          have hB := dX16_field fu q8 (a3 + (1 : Int32)) v7 M6 hB eM9
          exact dX16_answer_L180 fu (fun b0 b1 b3 b4 b5 b6 M => fX16_answer_L127 fu  n b0 b1 b3 b4 b5 b6 M) ih  a0 a1 v4 v10 a5 a6 M9 hB h
theorem dX16_answer_L7 (fu : Nat) {dn : Nat} {out : Mm}   : ∀ (n : Nat) (a0 : Nat) (a1 : Option Nat) (a2 : Int32) (a3 : Int32)  (M : Mm), DP dn M → fX16_answer_L7 fu  n a0 a1 a2 a3 M = some out → DP dn out := by
  intro n
  induction n with
  | zero =>
    intro a0 a1 a2 a3 M hB h
    have h : (none : Option (Mm)) = some out := h
    cases h
  | succ n ih =>
    intro a0 a1 a2 a3 M hB h
    rw [fX16_answer_L7] at h
    by_cases hc : a2 ≤ a3
    · have h := (if_pos hc).symm.trans h
      obtain ⟨q1, eq1, h⟩ := bd h
      obtain ⟨M2, eM2, h⟩ := bd h
      have hB := dX16_take fu q1 a1 a2 M hB eM2
      obtain ⟨M3, eM3, h⟩ := bd h
      have hB := d_pF hB eM3 (by decide)
      obtain ⟨M4, eM4, h⟩ := bd h
      have hB := d_pZ hB eM4 (by decide)
      obtain ⟨M5, eM5, h⟩ := bd h
      have hB := d_pZ hB eM5 (by decide)
      obtain ⟨M6, eM6, h⟩ := bd h
      have hB := d_pZ hB eM6 (by decide)
      obtain ⟨M7, eM7, h⟩ := bd h
      have hB := d_pZ hB eM7 (by decide)
      obtain ⟨M8, eM8, h⟩ := bd h
      have hB := d_pF hB eM8 (by decide)
      obtain ⟨M9, eM9, h⟩ := bd h
      have hB := d_pF hB eM9 (by decide)
      obtain ⟨M10, eM10, h⟩ := bd h
      have hB := d_pF hB eM10 (by decide)
      obtain ⟨M11, eM11, h⟩ := bd h
      have hB := d_pF hB eM11 (by decide)
      obtain ⟨M12, eM12, h⟩ := bd h
      have hB := d_pZ hB eM12 (by decide)
      obtain ⟨M13, eM13, h⟩ := bd h
      have hB := d_pZ hB eM13 (by decide)
      obtain ⟨M14, eM14, h⟩ := bd h
      have hB := d_pZ hB eM14 (by decide)
      obtain ⟨M15, eM15, h⟩ := bd h
      have hB := d_pZ hB eM15 (by decide)
      obtain ⟨q16, eq16, h⟩ := bd h
      obtain ⟨v18, M17, eM17, h⟩ := b2d h
      have hB := dX16_lineEnd fu q16 (0 : Int32) M15 hB eM17
      obtain ⟨q19, eq19, h⟩ := bd h
      obtain ⟨v21, M20, eM20, h⟩ := b2d h
      have hB := dX16_shown fu q19 (0 : Int32) v18 M17 hB eM20
      obtain ⟨q22, eq22, h⟩ := bd h
      obtain ⟨v24, M23, eM23, h⟩ := b2d h
      have hB := dX16_requestLine fu q22 (0 : Int32) v21 M20 hB eM23
      exact dX16_answer_L127 fu   fu a0 a1 v18 v24 v24 (-1 : Int32) M23 hB h
    · have h := (if_neg hc).symm.trans h
      obtain ⟨v25, ev25, h⟩ := bd h
      obtain ⟨v26, ev26, h⟩ := bd h
      obtain ⟨v27, ev27, h⟩ := bd h
      obtain ⟨M28, eM28, h⟩ := bd h
      have hB := d_pA hB eM28
      exact ih a0 a1 a2 (a3 + (1 : Int32)) M28 hB h
theorem dX16_answer (fu : Nat) {dn : Nat} {out : Mm}   (a0 : Nat) (a1 : Option Nat) (a2 : Int32)  (M : Mm) (hB : DP dn M) (h : fX16_answer fu  a0 a1 a2 M = some out) : DP dn out := by
  unfold fX16_answer at h
  obtain ⟨M1, eM1, h⟩ := bd h
  have hB := d_pF hB eM1 (by decide)
  exact dX16_answer_L7 fu   fu a0 a1 a2 (0 : Int32) M1 hB h
theorem dX16_refuse (fu : Nat) {dn : Nat} {out : Mm}   (a0 : Nat) (a1 : Option Nat)  (M : Mm) (hB : DP dn M) (h : fX16_refuse fu  a0 a1 M = some out) : DP dn out := by
  unfold fX16_refuse at h
  obtain ⟨q1, eq1, h⟩ := bd h
  obtain ⟨v3, M2, eM2, h⟩ := b2d h
  have hB := dX12_held fu q1  M hB eM2
  obtain ⟨q4, eq4, h⟩ := bd h
  obtain ⟨M5, eM5, h⟩ := bd h
  have hB := dX16_take fu q4 a1 v3 M2 hB eM5
  obtain ⟨M6, eM6, h⟩ := bd h
  have hB := d_pZ hB eM6 (by decide)
  obtain ⟨M7, eM7, h⟩ := bd h
  have hB := d_pF hB eM7 (by decide)
  obtain ⟨q8, eq8, h⟩ := bd h
  obtain ⟨M9, eM9, h⟩ := bd h
  have hB := dX16_make fu q8 a1 (-1 : Int32) (1 : Int32) M7 hB eM9
  obtain rfl := Option.some.inj h
  exact hB
theorem dX16_oneRequest_L76 (fu : Nat) {dn : Nat} {out : Int32 × Mm}   (a0 : Nat) (a1 : Option Nat) (s0 : Int32) (M : Mm) (hB : DP dn M) (h : fX16_oneRequest_L76 fu  a0 a1 s0 M = some out) : DP dn out.2 := by
  unfold fX16_oneRequest_L76 at h
  by_cases hc : s0 ≤ 0
  · have h := (if_pos hc).symm.trans h
    obtain ⟨q1, eq1, h⟩ := bd h
    obtain ⟨v3, M2, eM2, h⟩ := b2d h
    have hB := dX12_held fu q1  M hB eM2
    by_cases hc : v3 = (4096 : Int32)
    · have h := (if_pos hc).symm.trans h
      obtain ⟨q6, eq6, h⟩ := bd h
      obtain ⟨M7, eM7, h⟩ := bd h
      have hB := dX16_refuse fu q6 a1 M2 hB eM7
      obtain ⟨hz, rfl⟩ := rN_some h
      exact hB
    · have h := (if_neg hc).symm.trans h
      obtain ⟨v4, ev4, h⟩ := bd h
      by_cases hc : v4 = (7 : Int32)
      · have h := (if_pos hc).symm.trans h
        obtain ⟨M5, eM5, h⟩ := bd h
        have hB := d_pZ hB eM5 (by decide)
        obtain ⟨hz, rfl⟩ := rN_some h
        exact hB
      · have h := (if_neg hc).symm.trans h
        obtain ⟨hz, rfl⟩ := rN_some h
        exact hB
  · have h := (if_neg hc).symm.trans h
    obtain ⟨q8, eq8, h⟩ := bd h
    obtain ⟨M9, eM9, h⟩ := bd h
    have hB := dX16_answer fu q8 a1 s0 M hB eM9
    obtain ⟨hz, rfl⟩ := rN_some h
    exact hB
theorem dX16_oneRequest_L60 (fu : Nat) {dn : Nat} {out : Int32 × Mm}   (a0 : Nat) (a1 : Option Nat)  (M : Mm) (hB : DP dn M) (h : fX16_oneRequest_L60 fu  a0 a1 M = some out) : DP dn out.2 := by
  unfold fX16_oneRequest_L60 at h
  obtain ⟨v1, ev1, h⟩ := bd h
  by_cases hc : v1 = 0
  · have h := (if_pos hc).symm.trans h
    obtain ⟨q2, eq2, h⟩ := bd h
    obtain ⟨v4, M3, eM3, h⟩ := b2d h
    have hB := dX16_headBytes fu q2 a1 M hB eM3
    exact dX16_oneRequest_L76 fu    a0 a1 v4 M3 hB h
  · have h := (if_neg hc).symm.trans h
    exact dX16_oneRequest_L76 fu    a0 a1 (0 : Int32) M hB h
theorem dX16_oneRequest_L54 (fu : Nat) {dn : Nat} {out : Int32 × Mm} (k0 : Nat → Option Nat → Mm → Option (Int32 × Mm)) (hk0 : ∀ (b0 : Nat) (b1 : Option Nat)  (M : Mm), DP dn M → k0 b0 b1 M = some out → DP dn out.2) (a0 : Nat) (a1 : Option Nat) (s0 : Option Nat) (s1 : Option Nat) (s2 : Int32) (M : Mm) (hB : DP dn M) (h : fX16_oneRequest_L54 fu k0 a0 a1 s0 s1 s2 M = some out) : DP dn out.2 := by
  unfold fX16_oneRequest_L54 at h
  obtain ⟨q1, eq1, h⟩ := bd h
  obtain ⟨M2, eM2, h⟩ := bd h
  have hB := dX16_take fu q1 s1 s2 M hB eM2
  exact hk0 a0 a1 M2 hB h
theorem dX16_oneRequest_L37 (fu : Nat) {dn : Nat} {out : Int32 × Mm} (k0 : Nat → Option Nat → Mm → Option (Int32 × Mm)) (hk0 : ∀ (b0 : Nat) (b1 : Option Nat)  (M : Mm), DP dn M → k0 b0 b1 M = some out → DP dn out.2) (a0 : Nat) (a1 : Option Nat)  (M : Mm) (hB : DP dn M) (h : fX16_oneRequest_L37 fu k0 a0 a1 M = some out) : DP dn out.2 := by
  unfold fX16_oneRequest_L37 at h
  obtain ⟨v2, M1, eM1, h⟩ := b2d h
  have hB := dX16_byteAt fu  a1 (0 : Int32) M hB eM1
  by_cases hc : v2 = (10 : Int32)
  · have h := (if_pos hc).symm.trans h
    exact dX16_oneRequest_L54 fu k0 hk0  a0 a1 (some a0) a1 (1 : Int32) M1 hB h
  · have h := (if_neg hc).symm.trans h
    exact dX16_oneRequest_L54 fu k0 hk0  a0 a1 (some a0) a1 (2 : Int32) M1 hB h
theorem dX16_oneRequest_H (fu : Nat) {dn : Nat} {out : Int32 × Mm}   : ∀ (n : Nat) (a0 : Nat) (a1 : Option Nat)  (M : Mm), DP dn M → fX16_oneRequest_H fu  n a0 a1 M = some out → DP dn out.2 := by
  intro n
  induction n with
  | zero =>
    intro a0 a1 M hB h
    have h : (none : Option (Int32 × Mm)) = some out := h
    cases h
  | succ n ih =>
    intro a0 a1 M hB h
    rw [fX16_oneRequest_H] at h
    obtain ⟨v1, ev1, h⟩ := bd h
    by_cases hc : v1 = 0
    · have h := (if_pos hc).symm.trans h
      obtain ⟨v3, M2, eM2, h⟩ := b2d h
      have hB := dX16_byteAt fu  a1 (0 : Int32) M hB eM2
      by_cases hc : v3 = (10 : Int32)
      · have h := (if_pos hc).symm.trans h
        exact dX16_oneRequest_L37 fu (fun b0 b1 M => fX16_oneRequest_H fu  n b0 b1 M) ih  a0 a1 M2 hB h
      · have h := (if_neg hc).symm.trans h
        obtain ⟨v5, M4, eM4, h⟩ := b2d h
        have hB := dX16_byteAt fu  a1 (0 : Int32) M2 hB eM4
        by_cases hc : v5 = (13 : Int32)
        · have h := (if_pos hc).symm.trans h
          obtain ⟨v7, M6, eM6, h⟩ := b2d h
          have hB := dX16_byteAt fu  a1 (1 : Int32) M4 hB eM6
          by_cases hc : v7 = (10 : Int32)
          · have h := (if_pos hc).symm.trans h
            exact dX16_oneRequest_L37 fu (fun b0 b1 M => fX16_oneRequest_H fu  n b0 b1 M) ih  a0 a1 M6 hB h
          · have h := (if_neg hc).symm.trans h
            exact dX16_oneRequest_L60 fu    a0 a1 M6 hB h
        · have h := (if_neg hc).symm.trans h
          exact dX16_oneRequest_L60 fu    a0 a1 M4 hB h
    · have h := (if_neg hc).symm.trans h
      exact dX16_oneRequest_L60 fu    a0 a1 M hB h
theorem dX16_oneRequest (fu : Nat) {dn : Nat} {out : Int32 × Mm} (a0 : Nat) (a1 : Option Nat) (M : Mm) (hB : DP dn M) (h : fX16_oneRequest fu a0 a1 M = some out) : DP dn out.2 := dX16_oneRequest_H fu fu a0 a1 M hB h
theorem dX16_requests_L109 (fu : Nat) {dn : Nat} {out : Mm} (k2 : Nat → Option Nat → Int32 → Mm → Option (Mm)) (hk2 : ∀ (b0 : Nat) (b1 : Option Nat) (b2 : Int32)  (M : Mm), DP dn M → k2 b0 b1 b2 M = some out → DP dn out) (a0 : Nat) (a1 : Option Nat) (s0 : Int32) (M : Mm) (hB : DP dn M) (h : fX16_requests_L109 fu k2 a0 a1 s0 M = some out) : DP dn out := by
  unfold fX16_requests_L109 at h
  exact hk2 a0 a1 s0 M hB h
theorem dX16_requests_L108 (fu : Nat) {dn : Nat} {out : Mm} (k2 : Nat → Option Nat → Int32 → Mm → Option (Mm)) (hk2 : ∀ (b0 : Nat) (b1 : Option Nat) (b2 : Int32)  (M : Mm), DP dn M → k2 b0 b1 b2 M = some out → DP dn out) (a0 : Nat) (a1 : Option Nat)  (M : Mm) (hB : DP dn M) (h : fX16_requests_L108 fu k2 a0 a1 M = some out) : DP dn out := by
  unfold fX16_requests_L108 at h
  exact dX16_requests_L109 fu k2 hk2  a0 a1 (0 : Int32) M hB h
theorem dX16_requests_L89 (fu : Nat) {dn : Nat} {out : Mm} (k2 : Nat → Option Nat → Int32 → Mm → Option (Mm)) (hk2 : ∀ (b0 : Nat) (b1 : Option Nat) (b2 : Int32)  (M : Mm), DP dn M → k2 b0 b1 b2 M = some out → DP dn out) (a0 : Nat) (a1 : Option Nat) (s0 : Int32) (M : Mm) (hB : DP dn M) (h : fX16_requests_L89 fu k2 a0 a1 s0 M = some out) : DP dn out := by
  unfold fX16_requests_L89 at h
  by_cases hc : s0 = 0
  · have h := (if_pos hc).symm.trans h
    exact dX16_requests_L108 fu k2 hk2  a0 a1 M hB h
  · have h := (if_neg hc).symm.trans h
    obtain ⟨q1, eq1, h⟩ := bd h
    obtain ⟨v3, M2, eM2, h⟩ := b2d h
    have hB := dX16_oneRequest fu q1 a1 M hB eM2
    by_cases hc : v3 = 0
    · have h := (if_pos hc).symm.trans h
      exact dX16_requests_L108 fu k2 hk2  a0 a1 M2 hB h
    · have h := (if_neg hc).symm.trans h
      exact dX16_requests_L109 fu k2 hk2  a0 a1 (1 : Int32) M2 hB h
theorem dX16_requests_L88 (fu : Nat) {dn : Nat} {out : Mm} (k2 : Nat → Option Nat → Int32 → Mm → Option (Mm)) (hk2 : ∀ (b0 : Nat) (b1 : Option Nat) (b2 : Int32)  (M : Mm), DP dn M → k2 b0 b1 b2 M = some out → DP dn out) (a0 : Nat) (a1 : Option Nat)  (M : Mm) (hB : DP dn M) (h : fX16_requests_L88 fu k2 a0 a1 M = some out) : DP dn out := by
  unfold fX16_requests_L88 at h
  exact dX16_requests_L89 fu k2 hk2  a0 a1 (0 : Int32) M hB h
theorem dX16_requests_L55 (fu : Nat) {dn : Nat} {out : Mm} (k2 : Nat → Option Nat → Int32 → Mm → Option (Mm)) (hk2 : ∀ (b0 : Nat) (b1 : Option Nat) (b2 : Int32)  (M : Mm), DP dn M → k2 b0 b1 b2 M = some out → DP dn out) (a0 : Nat) (a1 : Option Nat)  (M : Mm) (hB : DP dn M) (h : fX16_requests_L55 fu k2 a0 a1 M = some out) : DP dn out := by
  unfold fX16_requests_L55 at h
  obtain ⟨v1, ev1, h⟩ := bd h
  by_cases hc : v1 = 0
  · have h := (if_pos hc).symm.trans h
    obtain ⟨v2, ev2, h⟩ := bd h
    obtain ⟨q3, eq3, h⟩ := bd h
    obtain ⟨v5, M4, eM4, h⟩ := b2d h
    have hB := dX12_left fu q3 v2 M hB eM4
    by_cases hc : v5 = 0
    · have h := (if_pos hc).symm.trans h
      obtain ⟨v6, ev6, h⟩ := bd h
      obtain ⟨v7, ev7, h⟩ := bd h
      by_cases hc : v6 = v7
      · have h := (if_pos hc).symm.trans h
        exact dX16_requests_L89 fu k2 hk2  a0 a1 (1 : Int32) M4 hB h
      · have h := (if_neg hc).symm.trans h
        exact dX16_requests_L88 fu k2 hk2  a0 a1 M4 hB h
    · have h := (if_neg hc).symm.trans h
      exact dX16_requests_L88 fu k2 hk2  a0 a1 M4 hB h
  · have h := (if_neg hc).symm.trans h
    exact dX16_requests_L88 fu k2 hk2  a0 a1 M hB h
theorem dX16_requests_L38 (fu : Nat) {dn : Nat} {out : Mm} (k2 : Nat → Option Nat → Int32 → Mm → Option (Mm)) (hk2 : ∀ (b0 : Nat) (b1 : Option Nat) (b2 : Int32)  (M : Mm), DP dn M → k2 b0 b1 b2 M = some out → DP dn out) (a0 : Nat) (a1 : Option Nat)  (M : Mm) (hB : DP dn M) (h : fX16_requests_L38 fu k2 a0 a1 M = some out) : DP dn out := by
  unfold fX16_requests_L38 at h
  obtain ⟨v1, ev1, h⟩ := bd h
  by_cases hc : v1 = (2 : Int32)
  · have h := (if_pos hc).symm.trans h
    exact dX16_requests_L55 fu k2 hk2  a0 a1 M hB h
  · have h := (if_neg hc).symm.trans h
    obtain ⟨v2, ev2, h⟩ := bd h
    by_cases hc : v2 = (7 : Int32)
    · have h := (if_pos hc).symm.trans h
      exact dX16_requests_L55 fu k2 hk2  a0 a1 M hB h
    · have h := (if_neg hc).symm.trans h
      exact dX16_requests_L88 fu k2 hk2  a0 a1 M hB h
theorem dX16_requests_L2 (fu : Nat) {dn : Nat} {out : Mm}   : ∀ (n : Nat) (a0 : Nat) (a1 : Option Nat) (a2 : Int32)  (M : Mm), DP dn M → fX16_requests_L2 fu  n a0 a1 a2 M = some out → DP dn out := by
  intro n
  induction n with
  | zero =>
    intro a0 a1 a2 M hB h
    have h : (none : Option (Mm)) = some out := h
    cases h
  | succ n ih =>
    intro a0 a1 a2 M hB h
    rw [fX16_requests_L2] at h
    by_cases hc : a2 = 0
    · have h := (if_pos hc).symm.trans h
      obtain rfl := Option.some.inj h
      exact hB
    · have h := (if_neg hc).symm.trans h
      obtain ⟨v1, ev1, h⟩ := bd h
      obtain ⟨q2, eq2, h⟩ := bd h
      obtain ⟨v4, M3, eM3, h⟩ := b2d h
      have hB := dX12_held fu q2  M hB eM3
      by_cases hc : (jmin v1 v4) ≤ 0
      · have h := (if_pos hc).symm.trans h
        exact dX16_requests_L38 fu (fun b0 b1 b2 M => fX16_requests_L2 fu  n b0 b1 b2 M) ih  a0 a1 M3 hB h
      · have h := (if_neg hc).symm.trans h
        obtain ⟨v5, ev5, h⟩ := bd h
        obtain ⟨M6, eM6, h⟩ := bd h
        have hB := d_pF hB eM6 (by decide)
        obtain ⟨q7, eq7, h⟩ := bd h
        obtain ⟨M8, eM8, h⟩ := bd h
        have hB := dX16_take fu q7 a1 (jmin v1 v4) M6 hB eM8
        exact dX16_requests_L38 fu (fun b0 b1 b2 M => fX16_requests_L2 fu  n b0 b1 b2 M) ih  a0 a1 M8 hB h
theorem dX16_requests (fu : Nat) {dn : Nat} {out : Mm}   (a0 : Nat) (a1 : Option Nat)  (M : Mm) (hB : DP dn M) (h : fX16_requests fu  a0 a1 M = some out) : DP dn out := by
  unfold fX16_requests at h
  exact dX16_requests_L2 fu   fu a0 a1 (1 : Int32) M hB h
theorem dX16_dataWithin (fu : Nat) {dn : Nat} {out : Int32 × Mm}   (a0 : Option Nat) (a1 : Int32)  (M : Mm) (hB : DP dn M) (h : fX16_dataWithin fu  a0 a1 M = some out) : DP dn out.2 := by
  unfold fX16_dataWithin at h
  obtain ⟨q1, eq1, h⟩ := bd h
  obtain ⟨v3, M2, eM2, h⟩ := b2d h
  have hB := dX12_behind fu q1  M hB eM2
  obtain ⟨v4, ev4, h⟩ := bd h
  obtain ⟨v5, ev5, h⟩ := bd h
  obtain rfl := Option.some.inj h
  exact hB
theorem dX16_one_L69 (fu : Nat) {dn : Nat} {out : Mm}   (a1 : Option Nat) (s0 : Option Nat) (s1 : Int32) (s2 : Int32) (M : Mm) (hB : DP dn M) (h : fX16_one_L69 fu  a1 s0 s1 s2 M = some out) : DP dn out := by
  unfold fX16_one_L69 at h
  obtain ⟨M1, eM1, h⟩ := bd h
  have hB := d_pF hB eM1 (by decide)
  obtain ⟨v2, ev2, h⟩ := bd h
  obtain ⟨v3, ev3, h⟩ := bd h
  obtain ⟨v5, M4, eM4, h⟩ := b2d h
  have hB := dX16_before fu  v2 v3 M1 hB eM4
  by_cases hc : v5 = 0
  · have h := (if_pos hc).symm.trans h
    obtain rfl := Option.some.inj h
    exact hB
  · have h := (if_neg hc).symm.trans h
    obtain ⟨v6, ev6, h⟩ := bd h
    obtain ⟨M7, eM7, h⟩ := bd h
    have hB := d_pF hB eM7 (by decide)
    obtain rfl := Option.some.inj h
    exact hB
theorem dX16_one_L36 (fu : Nat) {dn : Nat} {out : Mm}   (a0 : Nat) (a1 : Option Nat) (a3 : Int32) (s0 : Int32) (M : Mm) (hB : DP dn M) (h : fX16_one_L36 fu  a0 a1 a3 s0 M = some out) : DP dn out := by
  unfold fX16_one_L36 at h
  obtain ⟨v1, ev1, h⟩ := bd h
  obtain ⟨q2, eq2, h⟩ := bd h
  obtain ⟨M3, eM3, h⟩ := bd h
  have hB := dX16_dataOut fu q2 a1 v1 a3 s0 M hB eM3
  by_cases hc : s0 = 0
  · have h := (if_pos hc).symm.trans h
    exact dX16_one_L69 fu    a1 a1 (v1 + a3) (0 : Int32) M3 hB h
  · have h := (if_neg hc).symm.trans h
    exact dX16_one_L69 fu    a1 a1 (v1 + a3) (1 : Int32) M3 hB h
theorem dX16_one_L35 (fu : Nat) {dn : Nat} {out : Mm}   (a0 : Nat) (a1 : Option Nat) (a3 : Int32)  (M : Mm) (hB : DP dn M) (h : fX16_one_L35 fu  a0 a1 a3 M = some out) : DP dn out := by
  unfold fX16_one_L35 at h
  exact dX16_one_L36 fu    a0 a1 a3 (0 : Int32) M hB h
theorem dX16_one (fu : Nat) {dn : Nat} {out : Mm}   (a0 : Nat) (a1 : Option Nat) (a2 : Int32)  (M : Mm) (hB : DP dn M) (h : fX16_one fu  a0 a1 a2 M = some out) : DP dn out := by
  unfold fX16_one at h
  obtain ⟨v2, M1, eM1, h⟩ := b2d h
  have hB := dX16_dataWithin fu  a1 a2 M hB eM1
  obtain ⟨v3, ev3, h⟩ := bd h
  by_cases hc : v3 = 0
  · have h := (if_pos hc).symm.trans h
    exact dX16_one_L35 fu    a0 a1 v2 M1 hB h
  · have h := (if_neg hc).symm.trans h
    obtain ⟨v4, ev4, h⟩ := bd h
    obtain ⟨q5, eq5, h⟩ := bd h
    obtain ⟨v7, M6, eM6, h⟩ := b2d h
    have hB := dX12_behind fu q5  M1 hB eM6
    by_cases hc : (v4 + v2) = v7
    · have h := (if_pos hc).symm.trans h
      by_cases hc : a2 ≤ v2
      · have h := (if_pos hc).symm.trans h
        exact dX16_one_L35 fu    a0 a1 v2 M6 hB h
      · have h := (if_neg hc).symm.trans h
        exact dX16_one_L36 fu    a0 a1 v2 (1 : Int32) M6 hB h
    · have h := (if_neg hc).symm.trans h
      exact dX16_one_L35 fu    a0 a1 v2 M6 hB h
theorem dX16_sendAll_L172 (fu : Nat) {dn : Nat} {out : Mm} (k17 : Nat → Option Nat → Int32 → Mm → Option (Mm)) (hk17 : ∀ (b0 : Nat) (b1 : Option Nat) (b2 : Int32)  (M : Mm), DP dn M → k17 b0 b1 b2 M = some out → DP dn out) (a0 : Nat) (a1 : Option Nat) (s0 : Int32) (M : Mm) (hB : DP dn M) (h : fX16_sendAll_L172 fu k17 a0 a1 s0 M = some out) : DP dn out := by
  unfold fX16_sendAll_L172 at h
  exact hk17 a0 a1 s0 M hB h
theorem dX16_sendAll_L171 (fu : Nat) {dn : Nat} {out : Mm} (k17 : Nat → Option Nat → Int32 → Mm → Option (Mm)) (hk17 : ∀ (b0 : Nat) (b1 : Option Nat) (b2 : Int32)  (M : Mm), DP dn M → k17 b0 b1 b2 M = some out → DP dn out) (a0 : Nat) (a1 : Option Nat)  (M : Mm) (hB : DP dn M) (h : fX16_sendAll_L171 fu k17 a0 a1 M = some out) : DP dn out := by
  unfold fX16_sendAll_L171 at h
  exact dX16_sendAll_L172 fu k17 hk17  a0 a1 (0 : Int32) M hB h
theorem dX16_sendAll_L152 (fu : Nat) {dn : Nat} {out : Mm} (k17 : Nat → Option Nat → Int32 → Mm → Option (Mm)) (hk17 : ∀ (b0 : Nat) (b1 : Option Nat) (b2 : Int32)  (M : Mm), DP dn M → k17 b0 b1 b2 M = some out → DP dn out) (a0 : Nat) (a1 : Option Nat) (a2 : Int32)  (M : Mm) (hB : DP dn M) (h : fX16_sendAll_L152 fu k17 a0 a1 a2 M = some out) : DP dn out := by
  unfold fX16_sendAll_L152 at h
  by_cases hc : a2 = 0
  · have h := (if_pos hc).symm.trans h
    exact dX16_sendAll_L171 fu k17 hk17  a0 a1 M hB h
  · have h := (if_neg hc).symm.trans h
    obtain ⟨v1, ev1, h⟩ := bd h
    obtain ⟨q2, eq2, h⟩ := bd h
    obtain ⟨v4, M3, eM3, h⟩ := b2d h
    have hB := dX12_left fu q2 v1 M hB eM3
    by_cases hc : v4 ≤ 0
    · have h := (if_pos hc).symm.trans h
      exact dX16_sendAll_L171 fu k17 hk17  a0 a1 M3 hB h
    · have h := (if_neg hc).symm.trans h
      exact dX16_sendAll_L172 fu k17 hk17  a0 a1 (1 : Int32) M3 hB h
theorem dX16_sendAll_L140 (fu : Nat) {dn : Nat} {out : Mm} (k17 : Nat → Option Nat → Int32 → Mm → Option (Mm)) (hk17 : ∀ (b0 : Nat) (b1 : Option Nat) (b2 : Int32)  (M : Mm), DP dn M → k17 b0 b1 b2 M = some out → DP dn out) (a0 : Nat) (a1 : Option Nat) (a4 : Int32) (s0 : Int32) (M : Mm) (hB : DP dn M) (h : fX16_sendAll_L140 fu k17 a0 a1 a4 s0 M = some out) : DP dn out := by
  unfold fX16_sendAll_L140 at h
  by_cases hc : s0 = 0
  · have h := (if_pos hc).symm.trans h
    exact dX16_sendAll_L152 fu k17 hk17  a0 a1 s0 M hB h
  · have h := (if_neg hc).symm.trans h
    obtain ⟨q1, eq1, h⟩ := bd h
    obtain ⟨M2, eM2, h⟩ := bd h
    have hB := dX16_one fu q1 a1 a4 M hB eM2
    exact dX16_sendAll_L152 fu k17 hk17  a0 a1 s0 M2 hB h
theorem dX16_sendAll_L139 (fu : Nat) {dn : Nat} {out : Mm} (k17 : Nat → Option Nat → Int32 → Mm → Option (Mm)) (hk17 : ∀ (b0 : Nat) (b1 : Option Nat) (b2 : Int32)  (M : Mm), DP dn M → k17 b0 b1 b2 M = some out → DP dn out) (a0 : Nat) (a1 : Option Nat) (a4 : Int32)  (M : Mm) (hB : DP dn M) (h : fX16_sendAll_L139 fu k17 a0 a1 a4 M = some out) : DP dn out := by
  unfold fX16_sendAll_L139 at h
  exact dX16_sendAll_L140 fu k17 hk17  a0 a1 a4 (0 : Int32) M hB h
theorem dX16_sendAll_L135 (fu : Nat) {dn : Nat} {out : Mm} (k17 : Nat → Option Nat → Int32 → Mm → Option (Mm)) (hk17 : ∀ (b0 : Nat) (b1 : Option Nat) (b2 : Int32)  (M : Mm), DP dn M → k17 b0 b1 b2 M = some out → DP dn out) (a0 : Nat) (a1 : Option Nat) (a4 : Int32)  (M : Mm) (hB : DP dn M) (h : fX16_sendAll_L135 fu k17 a0 a1 a4 M = some out) : DP dn out := by
  unfold fX16_sendAll_L135 at h
  exact dX16_sendAll_L140 fu k17 hk17  a0 a1 a4 (1 : Int32) M hB h
theorem dX16_sendAll_L101 (fu : Nat) {dn : Nat} {out : Mm} (k17 : Nat → Option Nat → Int32 → Mm → Option (Mm)) (hk17 : ∀ (b0 : Nat) (b1 : Option Nat) (b2 : Int32)  (M : Mm), DP dn M → k17 b0 b1 b2 M = some out → DP dn out) (a0 : Nat) (a1 : Option Nat) (a3 : Int32) (a4 : Int32) (a5 : Int32) (s0 : Int32) (s1 : Int32) (M : Mm) (hB : DP dn M) (h : fX16_sendAll_L101 fu k17 a0 a1 a3 a4 a5 s0 s1 M = some out) : DP dn out := by
  unfold fX16_sendAll_L101 at h
  by_cases hc : (s0 + s1) ≤ 0
  · have h := (if_pos hc).symm.trans h
    exact dX16_sendAll_L139 fu k17 hk17  a0 a1 a4 M hB h
  · have h := (if_neg hc).symm.trans h
    obtain ⟨v1, ev1, h⟩ := bd h
    by_cases hc : a5 = v1
    · have h := (if_pos hc).symm.trans h
      exact dX16_sendAll_L135 fu k17 hk17  a0 a1 a4 M hB h
    · have h := (if_neg hc).symm.trans h
      obtain ⟨v2, ev2, h⟩ := bd h
      obtain ⟨q3, eq3, h⟩ := bd h
      obtain ⟨v5, M4, eM4, h⟩ := b2d h
      have hB := dX12_left fu q3 v2 M hB eM4
      by_cases hc : (s0 + s1) = v5
      · have h := (if_pos hc).symm.trans h
        exact dX16_sendAll_L135 fu k17 hk17  a0 a1 a4 M4 hB h
      · have h := (if_neg hc).symm.trans h
        by_cases hc : a3 = 0
        · have h := (if_pos hc).symm.trans h
          exact dX16_sendAll_L135 fu k17 hk17  a0 a1 a4 M4 hB h
        · have h := (if_neg hc).symm.trans h
          exact dX16_sendAll_L139 fu k17 hk17  a0 a1 a4 M4 hB h
theorem dX16_sendAll_L87 (fu : Nat) {dn : Nat} {out : Mm} (k17 : Nat → Option Nat → Int32 → Mm → Option (Mm)) (hk17 : ∀ (b0 : Nat) (b1 : Option Nat) (b2 : Int32)  (M : Mm), DP dn M → k17 b0 b1 b2 M = some out → DP dn out) (a0 : Nat) (a1 : Option Nat) (a3 : Int32) (a4 : Int32) (a5 : Int32) (s0 : Int32) (M : Mm) (hB : DP dn M) (h : fX16_sendAll_L87 fu k17 a0 a1 a3 a4 a5 s0 M = some out) : DP dn out := by
  unfold fX16_sendAll_L87 at h
  by_cases hc : s0 = 0
  · have h := (if_pos hc).symm.trans h
    exact dX16_sendAll_L101 fu k17 hk17  a0 a1 a3 a4 a5 a5 (0 : Int32) M hB h
  · have h := (if_neg hc).symm.trans h
    exact dX16_sendAll_L101 fu k17 hk17  a0 a1 a3 a4 a5 a5 (1 : Int32) M hB h
theorem dX16_sendAll_L86 (fu : Nat) {dn : Nat} {out : Mm} (k17 : Nat → Option Nat → Int32 → Mm → Option (Mm)) (hk17 : ∀ (b0 : Nat) (b1 : Option Nat) (b2 : Int32)  (M : Mm), DP dn M → k17 b0 b1 b2 M = some out → DP dn out) (a0 : Nat) (a1 : Option Nat) (a3 : Int32) (a4 : Int32) (a5 : Int32)  (M : Mm) (hB : DP dn M) (h : fX16_sendAll_L86 fu k17 a0 a1 a3 a4 a5 M = some out) : DP dn out := by
  unfold fX16_sendAll_L86 at h
  exact dX16_sendAll_L87 fu k17 hk17  a0 a1 a3 a4 a5 (0 : Int32) M hB h
theorem dX16_sendAll_L17 (fu : Nat) {dn : Nat} {out : Mm}   : ∀ (n : Nat) (a0 : Nat) (a1 : Option Nat) (a2 : Int32)  (M : Mm), DP dn M → fX16_sendAll_L17 fu  n a0 a1 a2 M = some out → DP dn out := by
  intro n
  induction n with
  | zero =>
    intro a0 a1 a2 M hB h
    have h : (none : Option (Mm)) = some out := h
    cases h
  | succ n ih =>
    intro a0 a1 a2 M hB h
    rw [fX16_sendAll_L17] at h
    by_cases hc : a2 = 0
    · have h := (if_pos hc).symm.trans h
      obtain ⟨v1, ev1, h⟩ := bd h
      obtain ⟨q2, eq2, h⟩ := bd h
      obtain ⟨v4, M3, eM3, h⟩ := b2d h
      have hB := dX12_left fu q2 v1 M hB eM3
      by_cases hc : v4 ≤ 0
      · have h := (if_pos hc).symm.trans h
        obtain rfl := Option.some.inj h
        exact hB
      · have h := (if_neg hc).symm.trans h
        obtain ⟨v5, ev5, h⟩ := bd h
        obtain ⟨v6, ev6, h⟩ := bd h
        by_cases hc : v5 = v6
        · have h := (if_pos hc).symm.trans h
          obtain ⟨v7, ev7, h⟩ := bd h
          by_cases hc : v7 = 0
          · have h := (if_pos hc).symm.trans h
            obtain ⟨v8, ev8, h⟩ := bd h
            by_cases hc : v8 = 0
            · have h := (if_pos hc).symm.trans h
              obtain ⟨q9, eq9, h⟩ := bd h
              obtain ⟨M10, eM10, h⟩ := bd h
              have hB := dX16_timerSet fu q9 a1 M3 hB eM10
              obtain rfl := Option.some.inj h
              exact hB
            · have h := (if_neg hc).symm.trans h
              obtain rfl := Option.some.inj h
              exact hB
          · have h := (if_neg hc).symm.trans h
            obtain rfl := Option.some.inj h
            exact hB
        · have h := (if_neg hc).symm.trans h
          obtain rfl := Option.some.inj h
          exact hB
    · have h := (if_neg hc).symm.trans h
      obtain ⟨v11, ev11, h⟩ := bd h
      obtain ⟨v12, ev12, h⟩ := bd h
      obtain ⟨v13, ev13, h⟩ := bd h
      obtain ⟨v14, ev14, h⟩ := bd h
      obtain ⟨v16, M15, eM15, h⟩ := b2d h
      have hB := dX16_dataWithin fu  a1 ((jmin v13 v14) - (v11 - v12)) M hB eM15
      obtain ⟨v17, ev17, h⟩ := bd h
      by_cases hc : v17 = 0
      · have h := (if_pos hc).symm.trans h
        exact dX16_sendAll_L86 fu (fun b0 b1 b2 M => fX16_sendAll_L17 fu  n b0 b1 b2 M) ih  a0 a1 (v11 - v12) ((jmin v13 v14) - (v11 - v12)) v16 M15 hB h
      · have h := (if_neg hc).symm.trans h
        obtain ⟨v18, ev18, h⟩ := bd h
        obtain ⟨q19, eq19, h⟩ := bd h
        obtain ⟨v21, M20, eM20, h⟩ := b2d h
        have hB := dX12_behind fu q19  M15 hB eM20
        by_cases hc : (v18 + v16) = v21
        · have h := (if_pos hc).symm.trans h
          by_cases hc : ((jmin v13 v14) - (v11 - v12)) ≤ v16
          · have h := (if_pos hc).symm.trans h
            exact dX16_sendAll_L86 fu (fun b0 b1 b2 M => fX16_sendAll_L17 fu  n b0 b1 b2 M) ih  a0 a1 (v11 - v12) ((jmin v13 v14) - (v11 - v12)) v16 M20 hB h
          · have h := (if_neg hc).symm.trans h
            exact dX16_sendAll_L87 fu (fun b0 b1 b2 M => fX16_sendAll_L17 fu  n b0 b1 b2 M) ih  a0 a1 (v11 - v12) ((jmin v13 v14) - (v11 - v12)) v16 (1 : Int32) M20 hB h
        · have h := (if_neg hc).symm.trans h
          exact dX16_sendAll_L86 fu (fun b0 b1 b2 M => fX16_sendAll_L17 fu  n b0 b1 b2 M) ih  a0 a1 (v11 - v12) ((jmin v13 v14) - (v11 - v12)) v16 M20 hB h
theorem dX16_sendAll_L16 (fu : Nat) {dn : Nat} {out : Mm}   (a0 : Nat) (a1 : Option Nat) (s0 : Int32) (M : Mm) (hB : DP dn M) (h : fX16_sendAll_L16 fu  a0 a1 s0 M = some out) : DP dn out := by
  unfold fX16_sendAll_L16 at h
  exact dX16_sendAll_L17 fu   fu a0 a1 s0 M hB h
theorem dX16_sendAll (fu : Nat) {dn : Nat} {out : Mm}   (a0 : Nat) (a1 : Option Nat)  (M : Mm) (hB : DP dn M) (h : fX16_sendAll fu  a0 a1 M = some out) : DP dn out := by
  unfold fX16_sendAll at h
  obtain ⟨v1, ev1, h⟩ := bd h
  obtain ⟨q2, eq2, h⟩ := bd h
  obtain ⟨v4, M3, eM3, h⟩ := b2d h
  have hB := dX12_left fu q2 v1 M hB eM3
  by_cases hc : v4 ≤ 0
  · have h := (if_pos hc).symm.trans h
    exact dX16_sendAll_L16 fu    a0 a1 (0 : Int32) M3 hB h
  · have h := (if_neg hc).symm.trans h
    exact dX16_sendAll_L16 fu    a0 a1 (1 : Int32) M3 hB h
theorem dX16_segment_L128 (fu : Nat) {dn : Nat} {out : Mm}   (a0 : Nat) (a1 : Option Nat)  (M : Mm) (hB : DP dn M) (h : fX16_segment_L128 fu  a0 a1 M = some out) : DP dn out := by
  unfold fX16_segment_L128 at h
  obtain ⟨q1, eq1, h⟩ := bd h
  obtain ⟨M2, eM2, h⟩ := bd h
  have hB := dX16_requests fu q1 a1 M hB eM2
  obtain ⟨q3, eq3, h⟩ := bd h
  obtain ⟨M4, eM4, h⟩ := bd h
  have hB := dX16_sendAll fu q3 a1 M2 hB eM4
  obtain ⟨v5, ev5, h⟩ := bd h
  by_cases hc : v5 = 0
  · have h := (if_pos hc).symm.trans h
    obtain rfl := Option.some.inj h
    exact hB
  · have h := (if_neg hc).symm.trans h
    obtain ⟨q6, eq6, h⟩ := bd h
    obtain ⟨M7, eM7, h⟩ := bd h
    have hB := dX16_acknowledge fu q6 a1 M4 hB eM7
    obtain rfl := Option.some.inj h
    exact hB
theorem dX16_segment (fu : Nat) {dn : Nat} (hn : dn < 1000000) {out : Mm}   (a0 : Nat) (a1 : Option Nat)  (M : Mm) (hB : DP dn M) (h : fX16_segment fu  a0 a1 M = some out) : DP (dn + 1) out := by
  unfold fX16_segment at h
  obtain ⟨q1, eq1, h⟩ := bd h
  obtain ⟨v3, M2, eM2, h⟩ := b2d h
  have hB := dX16_isAcceptable fu q1 a1 M hB eM2
  by_cases hc : v3 = 0
  · have h := (if_pos hc).symm.trans h
    obtain ⟨q30, eq30, h⟩ := bd h
    obtain ⟨v32, M31, eM31, h⟩ := b2d h
    have hB := dX16_is fu q30 (4 : Int32) M2 hB eM31
    by_cases hc : v32 = 0
    · have h := (if_pos hc).symm.trans h
      obtain ⟨q33, eq33, h⟩ := bd h
      obtain ⟨M34, eM34, h⟩ := bd h
      have hB := dX16_acknowledge fu q33 a1 M31 hB eM34
      obtain ⟨v35, ev35, h⟩ := bd h
      by_cases hc : v35 = (6 : Int32)
      · have h := (if_pos hc).symm.trans h
        obtain ⟨q36, eq36, h⟩ := bd h
        obtain ⟨v38, M37, eM37, h⟩ := b2d h
        have hB := dX16_is fu q36 (1 : Int32) M34 hB eM37
        by_cases hc : v38 = 0
        · have h := (if_pos hc).symm.trans h
          obtain rfl := Option.some.inj h
          exact DP_s hB
        · have h := (if_neg hc).symm.trans h
          obtain ⟨v39, ev39, h⟩ := bd h
          obtain ⟨M40, eM40, h⟩ := bd h
          have hB := d_pF hB eM40 (by decide)
          obtain rfl := Option.some.inj h
          exact DP_s hB
      · have h := (if_neg hc).symm.trans h
        obtain rfl := Option.some.inj h
        exact DP_s hB
    · have h := (if_neg hc).symm.trans h
      obtain rfl := Option.some.inj h
      exact DP_s hB
  · have h := (if_neg hc).symm.trans h
    obtain ⟨q4, eq4, h⟩ := bd h
    obtain ⟨v6, M5, eM5, h⟩ := b2d h
    have hB := dX16_is fu q4 (4 : Int32) M2 hB eM5
    by_cases hc : v6 = 0
    · have h := (if_pos hc).symm.trans h
      obtain ⟨q7, eq7, h⟩ := bd h
      obtain ⟨v9, M8, eM8, h⟩ := b2d h
      have hB := dX16_is fu q7 (2 : Int32) M5 hB eM8
      by_cases hc : v9 = 0
      · have h := (if_pos hc).symm.trans h
        obtain ⟨q10, eq10, h⟩ := bd h
        obtain ⟨v12, M11, eM11, h⟩ := b2d h
        have hB := dX16_is fu q10 (16 : Int32) M8 hB eM11
        by_cases hc : v12 = 0
        · have h := (if_pos hc).symm.trans h
          obtain rfl := Option.some.inj h
          exact DP_s hB
        · have h := (if_neg hc).symm.trans h
          obtain ⟨q13, eq13, h⟩ := bd h
          obtain ⟨v15, M14, eM14, h⟩ := b2d h
          have hB := dX16_acknowledgement fu hn q13 a1 M11 hB eM14
          by_cases hc : v15 = 0
          · have h := (if_pos hc).symm.trans h
            obtain rfl := Option.some.inj h
            exact hB
          · have h := (if_neg hc).symm.trans h
            obtain ⟨q16, eq16, h⟩ := bd h
            obtain ⟨M17, eM17, h⟩ := bd h
            have hB := dX16_arrived fu q16 a1 M14 hB eM17
            obtain ⟨v18, ev18, h⟩ := bd h
            by_cases hc : v18 = (6 : Int32)
            · have h := (if_pos hc).symm.trans h
              obtain ⟨q19, eq19, h⟩ := bd h
              obtain ⟨v21, M20, eM20, h⟩ := b2d h
              have hB := dX16_is fu q19 (1 : Int32) M17 hB eM20
              by_cases hc : v21 = 0
              · have h := (if_pos hc).symm.trans h
                exact dX16_segment_L128 fu    a0 a1 M20 hB h
              · have h := (if_neg hc).symm.trans h
                obtain ⟨v22, ev22, h⟩ := bd h
                obtain ⟨M23, eM23, h⟩ := bd h
                have hB := d_pF hB eM23 (by decide)
                exact dX16_segment_L128 fu    a0 a1 M23 hB h
            · have h := (if_neg hc).symm.trans h
              exact dX16_segment_L128 fu    a0 a1 M17 hB h
      · have h := (if_neg hc).symm.trans h
        obtain ⟨q24, eq24, h⟩ := bd h
        obtain ⟨M25, eM25, h⟩ := bd h
        have hB := dX16_reset fu q24  M8 hB eM25
        obtain ⟨q26, eq26, h⟩ := bd h
        obtain ⟨M27, eM27, h⟩ := bd h
        have hB := dX16_gone fu q26 a1 M25 hB eM27
        obtain rfl := Option.some.inj h
        exact DP_s hB
    · have h := (if_neg hc).symm.trans h
      obtain ⟨q28, eq28, h⟩ := bd h
      obtain ⟨M29, eM29, h⟩ := bd h
      have hB := dX16_gone fu q28 a1 M5 hB eM29
      obtain rfl := Option.some.inj h
      exact DP_s hB
theorem dX16_tcp_L218 (fu : Nat) {dn : Nat} (hn : dn < 1000000) {out : Mm}   (a0 : Nat) (a2 : Option Nat)  (M : Mm) (hB : DP dn M) (h : fX16_tcp_L218 fu  a0 a2 M = some out) : DP (dn + 1) out := by
  unfold fX16_tcp_L218 at h
  by_cases hc : a2 = none
  · have h := (if_pos hc).symm.trans h
    obtain ⟨q3, eq3, h⟩ := bd h
    obtain ⟨M4, eM4, h⟩ := bd h
    have hB := dX16_alone fu q3  M hB eM4
    obtain rfl := Option.some.inj h
    exact DP_s hB
  · have h := (if_neg hc).symm.trans h
    obtain ⟨q1, eq1, h⟩ := bd h
    obtain ⟨M2, eM2, h⟩ := bd h
    have hB := dX16_segment fu hn q1 a2 M hB eM2
    obtain rfl := Option.some.inj h
    exact hB
theorem dX16_tcp_L212 (fu : Nat) {dn : Nat} (hn : dn < 1000000) {out : Mm} (k154 : Nat → Option Nat → Int32 → Mm → Option (Mm)) (hk154 : ∀ (b0 : Nat) (b2 : Option Nat) (b3 : Int32)  (M : Mm), DP dn M → k154 b0 b2 b3 M = some out → DP (dn + 1) out) (a0 : Nat) (a2 : Option Nat) (a3 : Int32)  (M : Mm) (hB : DP dn M) (h : fX16_tcp_L212 fu k154 a0 a2 a3 M = some out) : DP (dn + 1) out := by
  unfold fX16_tcp_L212 at h
  exact hk154 a0 a2 (a3 + (1 : Int32)) M hB h
theorem dX16_tcp_L154 (fu : Nat) {dn : Nat} (hn : dn < 1000000) {out : Mm}   : ∀ (n : Nat) (a0 : Nat) (a2 : Option Nat) (a3 : Int32)  (M : Mm), DP dn M → fX16_tcp_L154 fu  n a0 a2 a3 M = some out → DP (dn + 1) out := by
  intro n
  induction n with
  | zero =>
    intro a0 a2 a3 M hB h
    have h : (none : Option (Mm)) = some out := h
    cases h
  | succ n ih =>
    intro a0 a2 a3 M hB h
    rw [fX16_tcp_L154] at h
    by_cases hc : (16 : Int32) ≤ a3
    · have h := (if_pos hc).symm.trans h
      exact dX16_tcp_L218 fu hn    a0 a2 M hB h
    · have h := (if_neg hc).symm.trans h
      obtain ⟨v1, ev1, h⟩ := bd h
      by_cases hc : v1 = (80 : Int32)
      · have h := (if_pos hc).symm.trans h
        obtain ⟨v2, ev2, h⟩ := bd h
        obtain ⟨v3, ev3, h⟩ := bd h
        obtain ⟨v4, ev4, h⟩ := bd h
        by_cases hc : v4 = 0
        · have h := (if_pos hc).symm.trans h
          exact dX16_tcp_L212 fu hn (fun b0 b2 b3 M => fX16_tcp_L154 fu  n b0 b2 b3 M) ih  a0 a2 a3 M hB h
        · have h := (if_neg hc).symm.trans h
          obtain ⟨v5, ev5, h⟩ := bd h
          obtain ⟨v6, ev6, h⟩ := bd h
          by_cases hc : v5 = v6
          · have h := (if_pos hc).symm.trans h
            obtain ⟨v7, ev7, h⟩ := bd h
            obtain ⟨v8, ev8, h⟩ := bd h
            by_cases hc : v7 = v8
            · have h := (if_pos hc).symm.trans h
              exact dX16_tcp_L212 fu hn (fun b0 b2 b3 M => fX16_tcp_L154 fu  n b0 b2 b3 M) ih  a0 v3 a3 M hB h
            · have h := (if_neg hc).symm.trans h
              exact dX16_tcp_L212 fu hn (fun b0 b2 b3 M => fX16_tcp_L154 fu  n b0 b2 b3 M) ih  a0 a2 a3 M hB h
          · have h := (if_neg hc).symm.trans h
            exact dX16_tcp_L212 fu hn (fun b0 b2 b3 M => fX16_tcp_L154 fu  n b0 b2 b3 M) ih  a0 a2 a3 M hB h
      · have h := (if_neg hc).symm.trans h
        exact dX16_tcp_L218 fu hn    a0 a2 M hB h
theorem dX16_tcp (fu : Nat) {dn : Nat} (hn : dn < 1000000) {out : Mm}   (a0 : Nat) (a1 : Int32)  (M : Mm) (hB : DP dn M) (h : fX16_tcp fu  a0 a1 M = some out) : DP (dn + 1) out := by
  unfold fX16_tcp at h
  by_cases hc : (20 : Int32) ≤ a1
  · have h := (if_pos hc).symm.trans h
    obtain ⟨v1, ev1, h⟩ := bd h
    obtain ⟨v2, ev2, h⟩ := bd h
    obtain ⟨M3, eM3, h⟩ := bd h
    have hB := d_pF hB eM3 (by decide)
    obtain ⟨v4, ev4, h⟩ := bd h
    by_cases hc : v4 < (20 : Int32)
    · have h := (if_pos hc).symm.trans h
      obtain rfl := Option.some.inj h
      exact DP_s hB
    · have h := (if_neg hc).symm.trans h
      obtain ⟨v5, ev5, h⟩ := bd h
      by_cases hc : a1 < v5
      · have h := (if_pos hc).symm.trans h
        obtain rfl := Option.some.inj h
        exact DP_s hB
      · have h := (if_neg hc).symm.trans h
        obtain ⟨v6, ev6, h⟩ := bd h
        obtain ⟨v7, ev7, h⟩ := bd h
        obtain ⟨v8, ev8, h⟩ := bd h
        obtain ⟨q9, eq9, h⟩ := bd h
        obtain ⟨v11, M10, eM10, h⟩ := b2d h
        have hB := dX16_pseudo fu q9 v7 v8 a1 M3 hB eM10
        obtain ⟨v13, M12, eM12, h⟩ := b2d h
        have hB := dX16_added fu  v6 (0 : Int32) a1 v11 M10 hB eM12
        obtain ⟨v15, M14, eM14, h⟩ := b2d h
        have hB := dX16_sixteen fu  v13 M12 hB eM14
        by_cases hc : v15 = 0
        · have h := (if_pos hc).symm.trans h
          obtain ⟨q16, eq16, h⟩ := bd h
          obtain ⟨v18, M17, eM17, h⟩ := b2d h
          have hB := dX16_half fu q16 (0 : Int32) M14 hB eM17
          obtain ⟨M19, eM19, h⟩ := bd h
          have hB := d_from hB (d_half eM17) eM19
          obtain ⟨q20, eq20, h⟩ := bd h
          obtain ⟨v22, M21, eM21, h⟩ := b2d h
          have hB := dX16_half fu q20 (2 : Int32) M19 hB eM21
          obtain ⟨M23, eM23, h⟩ := bd h
          have hB := d_pF hB eM23 (by decide)
          obtain ⟨q24, eq24, h⟩ := bd h
          obtain ⟨v26, M25, eM25, h⟩ := b2d h
          have hB := dX16_wholeWord fu q24 (4 : Int32) M23 hB eM25
          obtain ⟨M27, eM27, h⟩ := bd h
          have hB := d_pF hB eM27 (by decide)
          obtain ⟨q28, eq28, h⟩ := bd h
          obtain ⟨v30, M29, eM29, h⟩ := b2d h
          have hB := dX16_wholeWord fu q28 (8 : Int32) M27 hB eM29
          obtain ⟨M31, eM31, h⟩ := bd h
          have hB := d_pF hB eM31 (by decide)
          obtain ⟨v32, ev32, h⟩ := bd h
          obtain ⟨v33, ev33, h⟩ := bd h
          obtain ⟨M34, eM34, h⟩ := bd h
          have hB := d_pF hB eM34 (by decide)
          obtain ⟨q35, eq35, h⟩ := bd h
          obtain ⟨v37, M36, eM36, h⟩ := b2d h
          have hB := dX16_half fu q35 (14 : Int32) M34 hB eM36
          obtain ⟨M38, eM38, h⟩ := bd h
          have hB := d_pF hB eM38 (by decide)
          obtain ⟨v39, ev39, h⟩ := bd h
          obtain ⟨M40, eM40, h⟩ := bd h
          have hB := d_pF hB eM40 (by decide)
          obtain ⟨v41, ev41, h⟩ := bd h
          obtain ⟨M42, eM42, h⟩ := bd h
          have hB := d_pF hB eM42 (by decide)
          exact dX16_tcp_L154 fu hn   fu a0 none (0 : Int32) M42 hB h
        · have h := (if_neg hc).symm.trans h
          obtain rfl := Option.some.inj h
          exact DP_s hB
  · have h := (if_neg hc).symm.trans h
    obtain rfl := Option.some.inj h
    exact DP_s hB
theorem dX16_taken (fu : Nat) {dn : Nat} (hn : dn < 1000000) {out : Mm}   (a0 : Nat) (a1 : Int32) (a2 : Int32)  (M : Mm) (hB : DP dn M) (h : fX16_taken fu  a0 a1 a2 M = some out) : DP (dn + 1) out := by
  unfold fX16_taken at h
  by_cases hc : a1 = (1 : Int32)
  · have h := (if_pos hc).symm.trans h
    obtain ⟨q3, eq3, h⟩ := bd h
    obtain ⟨M4, eM4, h⟩ := bd h
    have hB := dX16_echo fu q3 a2 M hB eM4
    obtain rfl := Option.some.inj h
    exact DP_s hB
  · have h := (if_neg hc).symm.trans h
    by_cases hc : a1 = (6 : Int32)
    · have h := (if_pos hc).symm.trans h
      obtain ⟨q1, eq1, h⟩ := bd h
      obtain ⟨M2, eM2, h⟩ := bd h
      have hB := dX16_tcp fu hn q1 a2 M hB eM2
      obtain rfl := Option.some.inj h
      exact hB
    · have h := (if_neg hc).symm.trans h
      obtain rfl := Option.some.inj h
      exact DP_s hB
theorem dX16_fragment_L422 (fu : Nat) {dn : Nat} (hn : dn < 1000000) {out : Mm}   : ∀ (n : Nat) (a0 : Nat) (a1 : Int32) (a2 : Int32) (a8 : Option Nat) (a12 : Int32)  (M : Mm), DP dn M → fX16_fragment_L422 fu  n a0 a1 a2 a8 a12 M = some out → DP (dn + 1) out := by
  intro n
  induction n with
  | zero =>
    intro a0 a1 a2 a8 a12 M hB h
    have h : (none : Option (Mm)) = some out := h
    cases h
  | succ n ih =>
    intro a0 a1 a2 a8 a12 M hB h
    rw [fX16_fragment_L422] at h
    obtain ⟨v1, ev1, h⟩ := bd h
    by_cases hc : v1 ≤ a12
    · have h := (if_pos hc).symm.trans h
      obtain ⟨M2, eM2, h⟩ := bd h
      have hB := d_pF hB eM2 (by decide)
      obtain ⟨v3, ev3, h⟩ := bd h
      obtain ⟨q4, eq4, h⟩ := bd h
      obtain ⟨M5, eM5, h⟩ := bd h
      have hB := dX16_taken fu hn q4 a2 v3 M2 hB eM5
      obtain rfl := Option.some.inj h
      exact hB
    · have h := (if_neg hc).symm.trans h
      obtain ⟨v6, ev6, h⟩ := bd h
      obtain ⟨v7, ev7, h⟩ := bd h
      obtain ⟨v8, ev8, h⟩ := bd h
      obtain ⟨M9, eM9, h⟩ := bd h
      have hB := d_pA hB eM9
      exact ih a0 a1 a2 a8 (a12 + (1 : Int32)) M9 hB h
theorem dX16_fragment_L375 (fu : Nat) {dn : Nat} (hn : dn < 1000000) {out : Mm}   : ∀ (n : Nat) (a0 : Nat) (a1 : Int32) (a2 : Int32) (a8 : Option Nat) (a12 : Int32)  (M : Mm), DP dn M → fX16_fragment_L375 fu  n a0 a1 a2 a8 a12 M = some out → DP (dn + 1) out := by
  intro n
  induction n with
  | zero =>
    intro a0 a1 a2 a8 a12 M hB h
    have h : (none : Option (Mm)) = some out := h
    cases h
  | succ n ih =>
    intro a0 a1 a2 a8 a12 M hB h
    rw [fX16_fragment_L375] at h
    obtain ⟨v1, ev1, h⟩ := bd h
    by_cases hc : v1 ≤ a12
    · have h := (if_pos hc).symm.trans h
      obtain ⟨M2, eM2, h⟩ := bd h
      have hB := d_pZ hB eM2 (by decide)
      obtain ⟨v3, ev3, h⟩ := bd h
      obtain ⟨v4, ev4, h⟩ := bd h
      obtain ⟨M5, eM5, h⟩ := bd h
      have hB := d_pA hB eM5
      exact dX16_fragment_L422 fu hn   fu a0 a1 a2 a8 (0 : Int32) M5 hB h
    · have h := (if_neg hc).symm.trans h
      obtain ⟨v6, ev6, h⟩ := bd h
      obtain ⟨v7, ev7, h⟩ := bd h
      by_cases hc : v7 = 0
      · have h := (if_pos hc).symm.trans h
        obtain rfl := Option.some.inj h
        exact DP_s hB
      · have h := (if_neg hc).symm.trans h
        exact ih a0 a1 a2 a8 (a12 + (1 : Int32)) M hB h
theorem dX16_fragment_L357 (fu : Nat) {dn : Nat} (hn : dn < 1000000) {out : Mm} (k306 : Nat → Int32 → Int32 → Int32 → Int32 → Int32 → Option Nat → Int32 → Mm → Option (Mm)) (hk306 : ∀ (b0 : Nat) (b1 : Int32) (b2 : Int32) (b3 : Int32) (b4 : Int32) (b5 : Int32) (b8 : Option Nat) (b12 : Int32)  (M : Mm), DP dn M → k306 b0 b1 b2 b3 b4 b5 b8 b12 M = some out → DP (dn + 1) out) (a0 : Nat) (a1 : Int32) (a2 : Int32) (a3 : Int32) (a4 : Int32) (a5 : Int32) (a8 : Option Nat) (a12 : Int32)  (M : Mm) (hB : DP dn M) (h : fX16_fragment_L357 fu k306 a0 a1 a2 a3 a4 a5 a8 a12 M = some out) : DP (dn + 1) out := by
  unfold fX16_fragment_L357 at h
  exact hk306 a0 a1 a2 a3 a4 a5 a8 (a12 + (1 : Int32)) M hB h
theorem dX16_fragment_L306 (fu : Nat) {dn : Nat} (hn : dn < 1000000) {out : Mm}   : ∀ (n : Nat) (a0 : Nat) (a1 : Int32) (a2 : Int32) (a3 : Int32) (a4 : Int32) (a5 : Int32) (a8 : Option Nat) (a12 : Int32)  (M : Mm), DP dn M → fX16_fragment_L306 fu  n a0 a1 a2 a3 a4 a5 a8 a12 M = some out → DP (dn + 1) out := by
  intro n
  induction n with
  | zero =>
    intro a0 a1 a2 a3 a4 a5 a8 a12 M hB h
    have h : (none : Option (Mm)) = some out := h
    cases h
  | succ n ih =>
    intro a0 a1 a2 a3 a4 a5 a8 a12 M hB h
    rw [fX16_fragment_L306] at h
    by_cases hc : a5 ≤ a12
    · have h := (if_pos hc).symm.trans h
      obtain ⟨v1, ev1, h⟩ := bd h
      by_cases hc : 0 ≤ v1
      · have h := (if_pos hc).symm.trans h
        exact dX16_fragment_L375 fu hn   fu a0 a1 a2 a8 (0 : Int32) M hB h
      · have h := (if_neg hc).symm.trans h
        obtain rfl := Option.some.inj h
        exact DP_s hB
    · have h := (if_neg hc).symm.trans h
      obtain ⟨v2, ev2, h⟩ := bd h
      obtain ⟨v3, ev3, h⟩ := bd h
      by_cases hc : v3 = 0
      · have h := (if_pos hc).symm.trans h
        obtain ⟨v4, ev4, h⟩ := bd h
        obtain ⟨M5, eM5, h⟩ := bd h
        have hB := d_pA hB eM5
        obtain ⟨v6, ev6, h⟩ := bd h
        obtain ⟨v7, ev7, h⟩ := bd h
        obtain ⟨v8, ev8, h⟩ := bd h
        obtain ⟨M9, eM9, h⟩ := bd h
        have hB := d_pA hB eM9
        exact dX16_fragment_L357 fu hn (fun b0 b1 b2 b3 b4 b5 b8 b12 M => fX16_fragment_L306 fu  n b0 b1 b2 b3 b4 b5 b8 b12 M) ih  a0 a1 a2 a3 a4 a5 a8 a12 M9 hB h
      · have h := (if_neg hc).symm.trans h
        exact dX16_fragment_L357 fu hn (fun b0 b1 b2 b3 b4 b5 b8 b12 M => fX16_fragment_L306 fu  n b0 b1 b2 b3 b4 b5 b8 b12 M) ih  a0 a1 a2 a3 a4 a5 a8 a12 M hB h
theorem dX16_fragment_L303 (fu : Nat) {dn : Nat} (hn : dn < 1000000) {out : Mm}   (a0 : Nat) (a1 : Int32) (a2 : Int32) (a3 : Int32) (a4 : Int32) (a5 : Int32) (a8 : Option Nat)  (M : Mm) (hB : DP dn M) (h : fX16_fragment_L303 fu  a0 a1 a2 a3 a4 a5 a8 M = some out) : DP (dn + 1) out := by
  unfold fX16_fragment_L303 at h
  exact dX16_fragment_L306 fu hn   fu a0 a1 a2 a3 a4 a5 a8 (0 : Int32) M hB h
theorem dX16_fragment_L279 (fu : Nat) {dn : Nat} (hn : dn < 1000000) {out : Mm}   (a0 : Nat) (a1 : Int32) (a2 : Int32) (a3 : Int32) (a4 : Int32) (a5 : Int32) (a6 : Int32) (a8 : Option Nat) (a10 : Int32) (a11 : Int32)  (M : Mm) (hB : DP dn M) (h : fX16_fragment_L279 fu  a0 a1 a2 a3 a4 a5 a6 a8 a10 a11 M = some out) : DP (dn + 1) out := by
  unfold fX16_fragment_L279 at h
  by_cases hc : a11 = 0
  · have h := (if_pos hc).symm.trans h
    by_cases hc : a6 = 0
    · have h := (if_pos hc).symm.trans h
      obtain ⟨M1, eM1, h⟩ := bd h
      have hB := d_pF hB eM1 (by decide)
      exact dX16_fragment_L303 fu hn    a0 a1 a2 a3 a4 a5 a8 M1 hB h
    · have h := (if_neg hc).symm.trans h
      exact dX16_fragment_L303 fu hn    a0 a1 a2 a3 a4 a5 a8 M hB h
  · have h := (if_neg hc).symm.trans h
    obtain ⟨M2, eM2, h⟩ := bd h
    have hB := d_pZ hB eM2 (by decide)
    obtain rfl := Option.some.inj h
    exact DP_s hB
theorem dX16_fragment_L271 (fu : Nat) {dn : Nat} (hn : dn < 1000000) {out : Mm} (k242 : Nat → Int32 → Int32 → Int32 → Int32 → Int32 → Int32 → Option Nat → Int32 → Int32 → Int32 → Mm → Option (Mm)) (hk242 : ∀ (b0 : Nat) (b1 : Int32) (b2 : Int32) (b3 : Int32) (b4 : Int32) (b5 : Int32) (b6 : Int32) (b8 : Option Nat) (b10 : Int32) (b11 : Int32) (b12 : Int32)  (M : Mm), DP dn M → k242 b0 b1 b2 b3 b4 b5 b6 b8 b10 b11 b12 M = some out → DP (dn + 1) out) (a0 : Nat) (a1 : Int32) (a2 : Int32) (a3 : Int32) (a4 : Int32) (a5 : Int32) (a6 : Int32) (a8 : Option Nat) (a10 : Int32) (a12 : Int32) (s0 : Int32) (M : Mm) (hB : DP dn M) (h : fX16_fragment_L271 fu k242 a0 a1 a2 a3 a4 a5 a6 a8 a10 a12 s0 M = some out) : DP (dn + 1) out := by
  unfold fX16_fragment_L271 at h
  exact hk242 a0 a1 a2 a3 a4 a5 a6 a8 a10 s0 (a12 + (1 : Int32)) M hB h
theorem dX16_fragment_L266 (fu : Nat) {dn : Nat} (hn : dn < 1000000) {out : Mm} (k242 : Nat → Int32 → Int32 → Int32 → Int32 → Int32 → Int32 → Option Nat → Int32 → Int32 → Int32 → Mm → Option (Mm)) (hk242 : ∀ (b0 : Nat) (b1 : Int32) (b2 : Int32) (b3 : Int32) (b4 : Int32) (b5 : Int32) (b6 : Int32) (b8 : Option Nat) (b10 : Int32) (b11 : Int32) (b12 : Int32)  (M : Mm), DP dn M → k242 b0 b1 b2 b3 b4 b5 b6 b8 b10 b11 b12 M = some out → DP (dn + 1) out) (a0 : Nat) (a1 : Int32) (a2 : Int32) (a3 : Int32) (a4 : Int32) (a5 : Int32) (a6 : Int32) (a8 : Option Nat) (a10 : Int32) (a12 : Int32)  (M : Mm) (hB : DP dn M) (h : fX16_fragment_L266 fu k242 a0 a1 a2 a3 a4 a5 a6 a8 a10 a12 M = some out) : DP (dn + 1) out := by
  unfold fX16_fragment_L266 at h
  exact dX16_fragment_L271 fu hn k242 hk242  a0 a1 a2 a3 a4 a5 a6 a8 a10 a12 (1 : Int32) M hB h
theorem dX16_fragment_L242 (fu : Nat) {dn : Nat} (hn : dn < 1000000) {out : Mm}   : ∀ (n : Nat) (a0 : Nat) (a1 : Int32) (a2 : Int32) (a3 : Int32) (a4 : Int32) (a5 : Int32) (a6 : Int32) (a8 : Option Nat) (a10 : Int32) (a11 : Int32) (a12 : Int32)  (M : Mm), DP dn M → fX16_fragment_L242 fu  n a0 a1 a2 a3 a4 a5 a6 a8 a10 a11 a12 M = some out → DP (dn + 1) out := by
  intro n
  induction n with
  | zero =>
    intro a0 a1 a2 a3 a4 a5 a6 a8 a10 a11 a12 M hB h
    have h : (none : Option (Mm)) = some out := h
    cases h
  | succ n ih =>
    intro a0 a1 a2 a3 a4 a5 a6 a8 a10 a11 a12 M hB h
    rw [fX16_fragment_L242] at h
    by_cases hc : (4096 : Int32) ≤ a12
    · have h := (if_pos hc).symm.trans h
      exact dX16_fragment_L279 fu hn    a0 a1 a2 a3 a4 a5 a6 a8 a10 a11 M hB h
    · have h := (if_neg hc).symm.trans h
      by_cases hc : a11 = 0
      · have h := (if_pos hc).symm.trans h
        obtain ⟨v1, ev1, h⟩ := bd h
        obtain ⟨v2, ev2, h⟩ := bd h
        by_cases hc : v2 = 0
        · have h := (if_pos hc).symm.trans h
          exact dX16_fragment_L271 fu hn (fun b0 b1 b2 b3 b4 b5 b6 b8 b10 b11 b12 M => fX16_fragment_L242 fu  n b0 b1 b2 b3 b4 b5 b6 b8 b10 b11 b12 M) ih  a0 a1 a2 a3 a4 a5 a6 a8 a10 a12 (0 : Int32) M hB h
        · have h := (if_neg hc).symm.trans h
          exact dX16_fragment_L266 fu hn (fun b0 b1 b2 b3 b4 b5 b6 b8 b10 b11 b12 M => fX16_fragment_L242 fu  n b0 b1 b2 b3 b4 b5 b6 b8 b10 b11 b12 M) ih  a0 a1 a2 a3 a4 a5 a6 a8 a10 a12 M hB h
      · have h := (if_neg hc).symm.trans h
        exact dX16_fragment_L266 fu hn (fun b0 b1 b2 b3 b4 b5 b6 b8 b10 b11 b12 M => fX16_fragment_L242 fu  n b0 b1 b2 b3 b4 b5 b6 b8 b10 b11 b12 M) ih  a0 a1 a2 a3 a4 a5 a6 a8 a10 a12 M hB h
theorem dX16_fragment_L231 (fu : Nat) {dn : Nat} (hn : dn < 1000000) {out : Mm}   (a0 : Nat) (a1 : Int32) (a2 : Int32) (a3 : Int32) (a4 : Int32) (a5 : Int32) (a6 : Int32) (a8 : Option Nat) (a10 : Int32) (s0 : Int32) (M : Mm) (hB : DP dn M) (h : fX16_fragment_L231 fu  a0 a1 a2 a3 a4 a5 a6 a8 a10 s0 M = some out) : DP (dn + 1) out := by
  unfold fX16_fragment_L231 at h
  by_cases hc : a6 = 0
  · have h := (if_pos hc).symm.trans h
    exact dX16_fragment_L242 fu hn   fu a0 a1 a2 a3 a4 a5 a6 a8 a10 s0 a10 M hB h
  · have h := (if_neg hc).symm.trans h
    exact dX16_fragment_L279 fu hn    a0 a1 a2 a3 a4 a5 a6 a8 a10 s0 M hB h
theorem dX16_fragment_L230 (fu : Nat) {dn : Nat} (hn : dn < 1000000) {out : Mm}   (a0 : Nat) (a1 : Int32) (a2 : Int32) (a3 : Int32) (a4 : Int32) (a5 : Int32) (a6 : Int32) (a8 : Option Nat) (a10 : Int32)  (M : Mm) (hB : DP dn M) (h : fX16_fragment_L230 fu  a0 a1 a2 a3 a4 a5 a6 a8 a10 M = some out) : DP (dn + 1) out := by
  unfold fX16_fragment_L230 at h
  exact dX16_fragment_L231 fu hn    a0 a1 a2 a3 a4 a5 a6 a8 a10 (0 : Int32) M hB h
theorem dX16_fragment_L226 (fu : Nat) {dn : Nat} (hn : dn < 1000000) {out : Mm}   (a0 : Nat) (a1 : Int32) (a2 : Int32) (a3 : Int32) (a4 : Int32) (a5 : Int32) (a6 : Int32) (a8 : Option Nat) (a10 : Int32)  (M : Mm) (hB : DP dn M) (h : fX16_fragment_L226 fu  a0 a1 a2 a3 a4 a5 a6 a8 a10 M = some out) : DP (dn + 1) out := by
  unfold fX16_fragment_L226 at h
  exact dX16_fragment_L231 fu hn    a0 a1 a2 a3 a4 a5 a6 a8 a10 (1 : Int32) M hB h
theorem dX16_fragment_L184 (fu : Nat) {dn : Nat} (hn : dn < 1000000) {out : Mm}   (a0 : Nat) (a1 : Int32) (a2 : Int32) (a3 : Int32) (a4 : Int32) (a5 : Int32) (a6 : Int32) (a8 : Option Nat)  (M : Mm) (hB : DP dn M) (h : fX16_fragment_L184 fu  a0 a1 a2 a3 a4 a5 a6 a8 M = some out) : DP (dn + 1) out := by
  unfold fX16_fragment_L184 at h
  obtain ⟨v1, ev1, h⟩ := bd h
  by_cases hc : v1 < 0
  · have h := (if_pos hc).symm.trans h
    exact dX16_fragment_L230 fu hn    a0 a1 a2 a3 a4 a5 a6 a8 (a3 + a5) M hB h
  · have h := (if_neg hc).symm.trans h
    by_cases hc : a6 = 0
    · have h := (if_pos hc).symm.trans h
      obtain ⟨v2, ev2, h⟩ := bd h
      by_cases hc : (a3 + a5) = v2
      · have h := (if_pos hc).symm.trans h
        exact dX16_fragment_L230 fu hn    a0 a1 a2 a3 a4 a5 a6 a8 (a3 + a5) M hB h
      · have h := (if_neg hc).symm.trans h
        exact dX16_fragment_L226 fu hn    a0 a1 a2 a3 a4 a5 a6 a8 (a3 + a5) M hB h
    · have h := (if_neg hc).symm.trans h
      obtain ⟨v3, ev3, h⟩ := bd h
      by_cases hc : (a3 + a5) ≤ v3
      · have h := (if_pos hc).symm.trans h
        exact dX16_fragment_L230 fu hn    a0 a1 a2 a3 a4 a5 a6 a8 (a3 + a5) M hB h
      · have h := (if_neg hc).symm.trans h
        exact dX16_fragment_L226 fu hn    a0 a1 a2 a3 a4 a5 a6 a8 (a3 + a5) M hB h
theorem dX16_fragment_L161 (fu : Nat) {dn : Nat} (hn : dn < 1000000) {out : Mm}   : ∀ (n : Nat) (a0 : Nat) (a1 : Int32) (a2 : Int32) (a3 : Int32) (a4 : Int32) (a5 : Int32) (a6 : Int32) (a8 : Option Nat) (a10 : Int32)  (M : Mm), DP dn M → fX16_fragment_L161 fu  n a0 a1 a2 a3 a4 a5 a6 a8 a10 M = some out → DP (dn + 1) out := by
  intro n
  induction n with
  | zero =>
    intro a0 a1 a2 a3 a4 a5 a6 a8 a10 M hB h
    have h : (none : Option (Mm)) = some out := h
    cases h
  | succ n ih =>
    intro a0 a1 a2 a3 a4 a5 a6 a8 a10 M hB h
    rw [fX16_fragment_L161] at h
    by_cases hc : (4096 : Int32) ≤ a10
    · have h := (if_pos hc).symm.trans h
      exact dX16_fragment_L184 fu hn    a0 a1 a2 a3 a4 a5 a6 a8 M hB h
    · have h := (if_neg hc).symm.trans h
      obtain ⟨v1, ev1, h⟩ := bd h
      obtain ⟨M2, eM2, h⟩ := bd h
      have hB := d_pA hB eM2
      exact ih a0 a1 a2 a3 a4 a5 a6 a8 (a10 + (1 : Int32)) M2 hB h
theorem dX16_fragment_L78 (fu : Nat) {dn : Nat} (hn : dn < 1000000) {out : Mm} (k17 : Nat → Int32 → Int32 → Int32 → Int32 → Int32 → Int32 → Int32 → Option Nat → Option Nat → Int32 → Mm → Option (Mm)) (hk17 : ∀ (b0 : Nat) (b1 : Int32) (b2 : Int32) (b3 : Int32) (b4 : Int32) (b5 : Int32) (b6 : Int32) (b7 : Int32) (b8 : Option Nat) (b9 : Option Nat) (b10 : Int32)  (M : Mm), DP dn M → k17 b0 b1 b2 b3 b4 b5 b6 b7 b8 b9 b10 M = some out → DP (dn + 1) out) (a0 : Nat) (a1 : Int32) (a2 : Int32) (a3 : Int32) (a4 : Int32) (a5 : Int32) (a6 : Int32) (a7 : Int32) (a8 : Option Nat) (a9 : Option Nat) (a10 : Int32)  (M : Mm) (hB : DP dn M) (h : fX16_fragment_L78 fu k17 a0 a1 a2 a3 a4 a5 a6 a7 a8 a9 a10 M = some out) : DP (dn + 1) out := by
  unfold fX16_fragment_L78 at h
  exact hk17 a0 a1 a2 a3 a4 a5 a6 a7 a8 a9 (a10 + (-1 : Int32)) M hB h
theorem dX16_fragment_L17 (fu : Nat) {dn : Nat} (hn : dn < 1000000) {out : Mm}   : ∀ (n : Nat) (a0 : Nat) (a1 : Int32) (a2 : Int32) (a3 : Int32) (a4 : Int32) (a5 : Int32) (a6 : Int32) (a7 : Int32) (a8 : Option Nat) (a9 : Option Nat) (a10 : Int32)  (M : Mm), DP dn M → fX16_fragment_L17 fu  n a0 a1 a2 a3 a4 a5 a6 a7 a8 a9 a10 M = some out → DP (dn + 1) out := by
  intro n
  induction n with
  | zero =>
    intro a0 a1 a2 a3 a4 a5 a6 a7 a8 a9 a10 M hB h
    have h : (none : Option (Mm)) = some out := h
    cases h
  | succ n ih =>
    intro a0 a1 a2 a3 a4 a5 a6 a7 a8 a9 a10 M hB h
    rw [fX16_fragment_L17] at h
    by_cases hc : a10 < 0
    · have h := (if_pos hc).symm.trans h
      by_cases hc : a8 = none
      · have h := (if_pos hc).symm.trans h
        by_cases hc : a9 = none
        · have h := (if_pos hc).symm.trans h
          obtain rfl := Option.some.inj h
          exact DP_s hB
        · have h := (if_neg hc).symm.trans h
          obtain ⟨M1, eM1, h⟩ := bd h
          have hB := d_pZ hB eM1 (by decide)
          obtain ⟨M2, eM2, h⟩ := bd h
          have hB := d_pF hB eM2 (by decide)
          obtain ⟨M3, eM3, h⟩ := bd h
          have hB := d_pF hB eM3 (by decide)
          obtain ⟨M4, eM4, h⟩ := bd h
          have hB := d_pF hB eM4 (by decide)
          obtain ⟨M5, eM5, h⟩ := bd h
          have hB := d_pF hB eM5 (by decide)
          obtain ⟨v6, ev6, h⟩ := bd h
          obtain ⟨M7, eM7, h⟩ := bd h
          have hB := d_pF hB eM7 (by decide)
          obtain ⟨v8, ev8, h⟩ := bd h
          obtain ⟨M9, eM9, h⟩ := bd h
          have hB := d_pF hB eM9 (by decide)
          obtain ⟨v10, ev10, h⟩ := bd h
          obtain ⟨M11, eM11, h⟩ := bd h
          have hB := d_pF hB eM11 (by decide)
          exact dX16_fragment_L161 fu hn   fu a0 a1 a2 a3 a4 a5 a6 a9 (0 : Int32) M11 hB h
      · have h := (if_neg hc).symm.trans h
        exact dX16_fragment_L184 fu hn    a0 a1 a2 a3 a4 a5 a6 a8 M hB h
    · have h := (if_neg hc).symm.trans h
      obtain ⟨v12, ev12, h⟩ := bd h
      obtain ⟨v13, ev13, h⟩ := bd h
      obtain ⟨v14, ev14, h⟩ := bd h
      by_cases hc : v14 = 0
      · have h := (if_pos hc).symm.trans h
        exact dX16_fragment_L78 fu hn (fun b0 b1 b2 b3 b4 b5 b6 b7 b8 b9 b10 M => fX16_fragment_L17 fu  n b0 b1 b2 b3 b4 b5 b6 b7 b8 b9 b10 M) ih  a0 a1 a2 a3 a4 a5 a6 a7 a8 v13 a10 M hB h
      · have h := (if_neg hc).symm.trans h
        obtain ⟨v15, ev15, h⟩ := bd h
        by_cases hc : v15 = a1
        · have h := (if_pos hc).symm.trans h
          obtain ⟨v16, ev16, h⟩ := bd h
          by_cases hc : v16 = a7
          · have h := (if_pos hc).symm.trans h
            obtain ⟨v17, ev17, h⟩ := bd h
            by_cases hc : v17 = a2
            · have h := (if_pos hc).symm.trans h
              exact dX16_fragment_L78 fu hn (fun b0 b1 b2 b3 b4 b5 b6 b7 b8 b9 b10 M => fX16_fragment_L17 fu  n b0 b1 b2 b3 b4 b5 b6 b7 b8 b9 b10 M) ih  a0 a1 a2 a3 a4 a5 a6 a7 v13 a9 a10 M hB h
            · have h := (if_neg hc).symm.trans h
              exact dX16_fragment_L78 fu hn (fun b0 b1 b2 b3 b4 b5 b6 b7 b8 b9 b10 M => fX16_fragment_L17 fu  n b0 b1 b2 b3 b4 b5 b6 b7 b8 b9 b10 M) ih  a0 a1 a2 a3 a4 a5 a6 a7 a8 a9 a10 M hB h
          · have h := (if_neg hc).symm.trans h
            exact dX16_fragment_L78 fu hn (fun b0 b1 b2 b3 b4 b5 b6 b7 b8 b9 b10 M => fX16_fragment_L17 fu  n b0 b1 b2 b3 b4 b5 b6 b7 b8 b9 b10 M) ih  a0 a1 a2 a3 a4 a5 a6 a7 a8 a9 a10 M hB h
        · have h := (if_neg hc).symm.trans h
          exact dX16_fragment_L78 fu hn (fun b0 b1 b2 b3 b4 b5 b6 b7 b8 b9 b10 M => fX16_fragment_L17 fu  n b0 b1 b2 b3 b4 b5 b6 b7 b8 b9 b10 M) ih  a0 a1 a2 a3 a4 a5 a6 a7 a8 a9 a10 M hB h
theorem dX16_fragment (fu : Nat) {dn : Nat} (hn : dn < 1000000) {out : Mm}   (a0 : Nat) (a1 : Int32) (a2 : Int32) (a3 : Int32) (a4 : Int32) (a5 : Int32) (a6 : Int32)  (M : Mm) (hB : DP dn M) (h : fX16_fragment fu  a0 a1 a2 a3 a4 a5 a6 M = some out) : DP (dn + 1) out := by
  unfold fX16_fragment at h
  obtain ⟨q1, eq1, h⟩ := bd h
  obtain ⟨v3, M2, eM2, h⟩ := b2d h
  have hB := dX16_trayHalf fu q1 (18 : Int32) M hB eM2
  exact dX16_fragment_L17 fu hn   fu a0 a1 a2 a3 a4 a5 a6 v3 none none (3 : Int32) M2 hB h
theorem dX16_ipIn_L274 (fu : Nat) {dn : Nat} (hn : dn < 1000000) {out : Mm}   (a0 : Nat) (a2 : Int32) (a4 : Int32) (a5 : Int32) (a6 : Int32) (a7 : Int32) (a8 : Int32)  (M : Mm) (hB : DP dn M) (h : fX16_ipIn_L274 fu  a0 a2 a4 a5 a6 a7 a8 M = some out) : DP (dn + 1) out := by
  unfold fX16_ipIn_L274 at h
  by_cases hc : (a5 + a7) ≤ (4096 : Int32)
  · have h := (if_pos hc).symm.trans h
    obtain ⟨q1, eq1, h⟩ := bd h
    obtain ⟨M2, eM2, h⟩ := bd h
    have hB := dX16_fragment fu hn q1 a4 a8 a5 ((14 : Int32) + a2) a7 a6 M hB eM2
    obtain rfl := Option.some.inj h
    exact hB
  · have h := (if_neg hc).symm.trans h
    obtain rfl := Option.some.inj h
    exact DP_s hB
theorem dX16_ipIn_L256 (fu : Nat) {dn : Nat} (hn : dn < 1000000) {out : Mm}   (a0 : Nat) (a2 : Int32) (a4 : Int32) (a5 : Int32) (a6 : Int32) (a7 : Int32) (a8 : Int32)  (M : Mm) (hB : DP dn M) (h : fX16_ipIn_L256 fu  a0 a2 a4 a5 a6 a7 a8 M = some out) : DP (dn + 1) out := by
  unfold fX16_ipIn_L256 at h
  by_cases hc : a6 = 0
  · have h := (if_pos hc).symm.trans h
    exact dX16_ipIn_L274 fu hn    a0 a2 a4 a5 a6 a7 a8 M hB h
  · have h := (if_neg hc).symm.trans h
    by_cases hc : a7 = 0
    · have h := (if_pos hc).symm.trans h
      obtain rfl := Option.some.inj h
      exact DP_s hB
    · have h := (if_neg hc).symm.trans h
      by_cases hc : (irm a7 (8 : Int32)) = 0
      · have h := (if_pos hc).symm.trans h
        exact dX16_ipIn_L274 fu hn    a0 a2 a4 a5 a6 a7 a8 M hB h
      · have h := (if_neg hc).symm.trans h
        obtain rfl := Option.some.inj h
        exact DP_s hB
theorem dX16_ipIn_L209 (fu : Nat) {dn : Nat} (hn : dn < 1000000) {out : Mm}   : ∀ (n : Nat) (a0 : Nat) (a2 : Int32) (a4 : Int32) (a7 : Int32) (a8 : Int32) (a9 : Int32)  (M : Mm), DP dn M → fX16_ipIn_L209 fu  n a0 a2 a4 a7 a8 a9 M = some out → DP (dn + 1) out := by
  intro n
  induction n with
  | zero =>
    intro a0 a2 a4 a7 a8 a9 M hB h
    have h : (none : Option (Mm)) = some out := h
    cases h
  | succ n ih =>
    intro a0 a2 a4 a7 a8 a9 M hB h
    rw [fX16_ipIn_L209] at h
    by_cases hc : a7 ≤ a9
    · have h := (if_pos hc).symm.trans h
      obtain ⟨M1, eM1, h⟩ := bd h
      have hB := d_pF hB eM1 (by decide)
      obtain ⟨q2, eq2, h⟩ := bd h
      obtain ⟨M3, eM3, h⟩ := bd h
      have hB := dX16_taken fu hn q2 a8 a7 M1 hB eM3
      obtain rfl := Option.some.inj h
      exact hB
    · have h := (if_neg hc).symm.trans h
      obtain ⟨v4, ev4, h⟩ := bd h
      obtain ⟨v5, ev5, h⟩ := bd h
      obtain ⟨v6, ev6, h⟩ := bd h
      obtain ⟨M7, eM7, h⟩ := bd h
      have hB := d_pA hB eM7
      exact ih a0 a2 a4 a7 a8 (a9 + (1 : Int32)) M7 hB h
theorem dX16_ipIn_L157 (fu : Nat) {dn : Nat} (hn : dn < 1000000) {out : Mm}   (a0 : Nat) (a2 : Int32) (a3 : Int32) (a4 : Int32) (a5 : Int32) (s0 : Int32) (M : Mm) (hB : DP dn M) (h : fX16_ipIn_L157 fu  a0 a2 a3 a4 a5 s0 M = some out) : DP (dn + 1) out := by
  unfold fX16_ipIn_L157 at h
  obtain ⟨v1, ev1, h⟩ := bd h
  obtain ⟨v2, ev2, h⟩ := bd h
  by_cases hc : s0 = 0
  · have h := (if_pos hc).symm.trans h
    by_cases hc : a5 = 0
    · have h := (if_pos hc).symm.trans h
      by_cases hc : (a3 - a2) ≤ (4096 : Int32)
      · have h := (if_pos hc).symm.trans h
        exact dX16_ipIn_L209 fu hn   fu a0 a2 a4 (a3 - a2) (v2 &&& (255 : Int32)) (0 : Int32) M hB h
      · have h := (if_neg hc).symm.trans h
        obtain ⟨v3, ev3, h⟩ := bd h
        obtain ⟨M4, eM4, h⟩ := bd h
        have hB := d_pF hB eM4 (by decide)
        obtain rfl := Option.some.inj h
        exact DP_s hB
    · have h := (if_neg hc).symm.trans h
      exact dX16_ipIn_L256 fu hn    a0 a2 a4 a5 s0 (a3 - a2) (v2 &&& (255 : Int32)) M hB h
  · have h := (if_neg hc).symm.trans h
    exact dX16_ipIn_L256 fu hn    a0 a2 a4 a5 s0 (a3 - a2) (v2 &&& (255 : Int32)) M hB h
theorem dX16_ipIn (fu : Nat) {dn : Nat} (hn : dn < 1000000) {out : Mm}   (a0 : Nat)  (M : Mm) (hB : DP dn M) (h : fX16_ipIn fu  a0 M = some out) : DP (dn + 1) out := by
  unfold fX16_ipIn at h
  obtain ⟨v1, ev1, h⟩ := bd h
  by_cases hc : (v1 - (14 : Int32)) < (20 : Int32)
  · have h := (if_pos hc).symm.trans h
    obtain rfl := Option.some.inj h
    exact DP_s hB
  · have h := (if_neg hc).symm.trans h
    obtain ⟨v2, ev2, h⟩ := bd h
    obtain ⟨v3, ev3, h⟩ := bd h
    by_cases hc : (v3 &&& (240 : Int32)) = (64 : Int32)
    · have h := (if_pos hc).symm.trans h
      obtain ⟨v4, ev4, h⟩ := bd h
      obtain ⟨v5, ev5, h⟩ := bd h
      obtain ⟨q6, eq6, h⟩ := bd h
      obtain ⟨v8, M7, eM7, h⟩ := b2d h
      have hB := dX16_trayHalf fu q6 (16 : Int32) M hB eM7
      by_cases hc : ((4 : Int32) * (v5 &&& (15 : Int32))) < (20 : Int32)
      · have h := (if_pos hc).symm.trans h
        obtain rfl := Option.some.inj h
        exact DP_s hB
      · have h := (if_neg hc).symm.trans h
        by_cases hc : v8 < ((4 : Int32) * (v5 &&& (15 : Int32)))
        · have h := (if_pos hc).symm.trans h
          obtain rfl := Option.some.inj h
          exact DP_s hB
        · have h := (if_neg hc).symm.trans h
          by_cases hc : (v1 - (14 : Int32)) < v8
          · have h := (if_pos hc).symm.trans h
            obtain rfl := Option.some.inj h
            exact DP_s hB
          · have h := (if_neg hc).symm.trans h
            obtain ⟨v9, ev9, h⟩ := bd h
            obtain ⟨v11, M10, eM10, h⟩ := b2d h
            have hB := dX16_added fu  v9 (14 : Int32) ((4 : Int32) * (v5 &&& (15 : Int32))) (0 : Int64) M7 hB eM10
            obtain ⟨v13, M12, eM12, h⟩ := b2d h
            have hB := dX16_sixteen fu  v11 M10 hB eM12
            by_cases hc : v13 = 0
            · have h := (if_pos hc).symm.trans h
              obtain ⟨q14, eq14, h⟩ := bd h
              obtain ⟨v16, M15, eM15, h⟩ := b2d h
              have hB := dX16_trayWord fu q14 (26 : Int32) M12 hB eM15
              obtain ⟨q17, eq17, h⟩ := bd h
              obtain ⟨v19, M18, eM18, h⟩ := b2d h
              have hB := dX16_trayWord fu q17 (30 : Int32) M15 hB eM18
              obtain ⟨v20, ev20, h⟩ := bd h
              by_cases hc : v19 = v20
              · have h := (if_pos hc).symm.trans h
                obtain ⟨v21, ev21, h⟩ := bd h
                by_cases hc : v16 = v21
                · have h := (if_pos hc).symm.trans h
                  obtain rfl := Option.some.inj h
                  exact DP_s hB
                · have h := (if_neg hc).symm.trans h
                  obtain ⟨v23, M22, eM22, h⟩ := b2d h
                  have hB := dX16_isHost fu  v16 M18 hB eM22
                  by_cases hc : v23 = 0
                  · have h := (if_pos hc).symm.trans h
                    obtain rfl := Option.some.inj h
                    exact DP_s hB
                  · have h := (if_neg hc).symm.trans h
                    obtain ⟨q24, eq24, h⟩ := bd h
                    obtain ⟨v26, M25, eM25, h⟩ := b2d h
                    have hB := dX16_trayHalf fu q24 (20 : Int32) M22 hB eM25
                    obtain ⟨q27, eq27, h⟩ := bd h
                    obtain ⟨v29, M28, eM28, h⟩ := b2d h
                    have hB := dX16_trayHalf fu q27 (20 : Int32) M25 hB eM28
                    by_cases hc : (v29 &&& (8192 : Int32)) = 0
                    · have h := (if_pos hc).symm.trans h
                      exact dX16_ipIn_L157 fu hn    a0 ((4 : Int32) * (v5 &&& (15 : Int32))) v8 v16 ((8 : Int32) * (v26 &&& (8191 : Int32))) (0 : Int32) M28 hB h
                    · have h := (if_neg hc).symm.trans h
                      exact dX16_ipIn_L157 fu hn    a0 ((4 : Int32) * (v5 &&& (15 : Int32))) v8 v16 ((8 : Int32) * (v26 &&& (8191 : Int32))) (1 : Int32) M28 hB h
              · have h := (if_neg hc).symm.trans h
                obtain rfl := Option.some.inj h
                exact DP_s hB
            · have h := (if_neg hc).symm.trans h
              obtain rfl := Option.some.inj h
              exact DP_s hB
    · have h := (if_neg hc).symm.trans h
      obtain rfl := Option.some.inj h
      exact DP_s hB
theorem dX16_runOut_L198 (fu : Nat) {dn : Nat} {out : Mm}   (a0 : Nat) (a1 : Option Nat)  (M : Mm) (hB : DP dn M) (h : fX16_runOut_L198 fu  a0 a1 M = some out) : DP dn out := by
  unfold fX16_runOut_L198 at h
  obtain ⟨q1, eq1, h⟩ := bd h
  obtain ⟨M2, eM2, h⟩ := bd h
  have hB := dX16_timerSet fu q1 a1 M hB eM2
  obtain rfl := Option.some.inj h
  exact hB
theorem dX16_runOut_L195 (fu : Nat) {dn : Nat} {out : Mm}   (a0 : Nat) (a1 : Option Nat) (s0 : Option Nat) (s1 : Option Nat) (s2 : Int32) (M : Mm) (hB : DP dn M) (h : fX16_runOut_L195 fu  a0 a1 s0 s1 s2 M = some out) : DP dn out := by
  unfold fX16_runOut_L195 at h
  obtain ⟨q1, eq1, h⟩ := bd h
  obtain ⟨M2, eM2, h⟩ := bd h
  have hB := dX16_one fu q1 s1 s2 M hB eM2
  exact dX16_runOut_L198 fu    a0 a1 M2 hB h
theorem dX16_runOut_L114 (fu : Nat) {dn : Nat} {out : Mm}   (a0 : Nat) (a1 : Option Nat)  (M : Mm) (hB : DP dn M) (h : fX16_runOut_L114 fu  a0 a1 M = some out) : DP dn out := by
  unfold fX16_runOut_L114 at h
  obtain ⟨v1, ev1, h⟩ := bd h
  obtain ⟨M2, eM2, h⟩ := bd h
  have hB := d_pF hB eM2 (by decide)
  obtain ⟨M3, eM3, h⟩ := bd h
  have hB := d_pZ hB eM3 (by decide)
  obtain ⟨M4, eM4, h⟩ := bd h
  have hB := d_p0 hB eM4
  obtain ⟨v5, ev5, h⟩ := bd h
  obtain ⟨M6, eM6, h⟩ := bd h
  have hB := d_pF hB eM6 (by decide)
  obtain ⟨v7, ev7, h⟩ := bd h
  obtain ⟨M8, eM8, h⟩ := bd h
  have hB := d_pF hB eM8 (by decide)
  obtain ⟨v9, ev9, h⟩ := bd h
  by_cases hc : v9 = (1 : Int32)
  · have h := (if_pos hc).symm.trans h
    obtain ⟨q13, eq13, h⟩ := bd h
    obtain ⟨M14, eM14, h⟩ := bd h
    have hB := dX16_synAck fu q13 a1 M8 hB eM14
    exact dX16_runOut_L198 fu    a0 a1 M14 hB h
  · have h := (if_neg hc).symm.trans h
    obtain ⟨v10, ev10, h⟩ := bd h
    by_cases hc : v10 = 0
    · have h := (if_pos hc).symm.trans h
      exact dX16_runOut_L195 fu    a0 a1 (some a0) a1 (1 : Int32) M8 hB h
    · have h := (if_neg hc).symm.trans h
      obtain ⟨v11, ev11, h⟩ := bd h
      obtain ⟨v12, ev12, h⟩ := bd h
      exact dX16_runOut_L195 fu    a0 a1 (some a0) a1 (jmin v11 v12) M8 hB h
theorem dX16_runOut_L33 (fu : Nat) {dn : Nat} {out : Mm}   (a0 : Nat) (a1 : Option Nat) (s0 : Int32) (s1 : Int32) (M : Mm) (hB : DP dn M) (h : fX16_runOut_L33 fu  a0 a1 s0 s1 M = some out) : DP dn out := by
  unfold fX16_runOut_L33 at h
  by_cases hc : s0 ≤ s1
  · have h := (if_pos hc).symm.trans h
    obtain ⟨v1, ev1, h⟩ := bd h
    by_cases hc : v1 = (1 : Int32)
    · have h := (if_pos hc).symm.trans h
      exact dX16_runOut_L114 fu    a0 a1 M hB h
    · have h := (if_neg hc).symm.trans h
      obtain ⟨v2, ev2, h⟩ := bd h
      obtain ⟨v3, ev3, h⟩ := bd h
      obtain ⟨v4, ev4, h⟩ := bd h
      obtain ⟨M5, eM5, h⟩ := bd h
      have hB := d_pF hB eM5 (by decide)
      exact dX16_runOut_L114 fu    a0 a1 M5 hB h
  · have h := (if_neg hc).symm.trans h
    obtain ⟨v6, ev6, h⟩ := bd h
    obtain ⟨v7, ev7, h⟩ := bd h
    obtain ⟨M8, eM8, h⟩ := bd h
    have hB := d_pA hB eM8
    obtain ⟨v9, ev9, h⟩ := bd h
    obtain ⟨v10, ev10, h⟩ := bd h
    obtain ⟨v11, ev11, h⟩ := bd h
    obtain ⟨v12, ev12, h⟩ := bd h
    obtain ⟨q13, eq13, h⟩ := bd h
    obtain ⟨v15, M14, eM14, h⟩ := b2d h
    have hB := dX12_open fu q13  M8 hB eM14
    obtain ⟨q16, eq16, h⟩ := bd h
    obtain ⟨M17, eM17, h⟩ := bd h
    have hB := dX16_segmentOut fu q16 v9 (80 : Int32) v10 v11 v12 (20 : Int32) v15 (0 : Int32) (0 : Int32) M14 hB eM17
    obtain ⟨q18, eq18, h⟩ := bd h
    obtain ⟨M19, eM19, h⟩ := bd h
    have hB := dX16_gone fu q18 a1 M17 hB eM19
    obtain rfl := Option.some.inj h
    exact hB
theorem dX16_runOut (fu : Nat) {dn : Nat} {out : Mm}   (a0 : Nat) (a1 : Option Nat)  (M : Mm) (hB : DP dn M) (h : fX16_runOut fu  a0 a1 M = some out) : DP dn out := by
  unfold fX16_runOut at h
  obtain ⟨M1, eM1, h⟩ := bd h
  have hB := d_pZ hB eM1 (by decide)
  obtain ⟨v2, ev2, h⟩ := bd h
  obtain ⟨M3, eM3, h⟩ := bd h
  have hB := d_pF hB eM3 (by decide)
  obtain ⟨v4, ev4, h⟩ := bd h
  obtain ⟨v5, ev5, h⟩ := bd h
  by_cases hc : v5 = (1 : Int32)
  · have h := (if_pos hc).symm.trans h
    exact dX16_runOut_L33 fu    a0 a1 v4 (5 : Int32) M3 hB h
  · have h := (if_neg hc).symm.trans h
    exact dX16_runOut_L33 fu    a0 a1 v4 (8 : Int32) M3 hB h
theorem dX16_isIdle (fu : Nat) {dn : Nat} {out : Int32 × Mm}   (a0 : Option Nat)  (M : Mm) (hB : DP dn M) (h : fX16_isIdle fu  a0 M = some out) : DP dn out.2 := by
  unfold fX16_isIdle at h
  obtain ⟨v1, ev1, h⟩ := bd h
  by_cases hc : v1 = (2 : Int32)
  · have h := (if_pos hc).symm.trans h
    obtain ⟨v2, ev2, h⟩ := bd h
    by_cases hc : v2 = 0
    · have h := (if_pos hc).symm.trans h
      obtain ⟨v3, ev3, h⟩ := bd h
      obtain ⟨v4, ev4, h⟩ := bd h
      by_cases hc : v3 = v4
      · have h := (if_pos hc).symm.trans h
        obtain ⟨v5, ev5, h⟩ := bd h
        obtain ⟨q6, eq6, h⟩ := bd h
        obtain ⟨v8, M7, eM7, h⟩ := b2d h
        have hB := dX12_left fu q6 v5 M hB eM7
        by_cases hc : v8 = 0
        · have h := (if_pos hc).symm.trans h
          obtain ⟨hz, rfl⟩ := rN_some h
          exact hB
        · have h := (if_neg hc).symm.trans h
          obtain ⟨hz, rfl⟩ := rN_some h
          exact hB
      · have h := (if_neg hc).symm.trans h
        obtain ⟨hz, rfl⟩ := rN_some h
        exact hB
    · have h := (if_neg hc).symm.trans h
      obtain ⟨hz, rfl⟩ := rN_some h
      exact hB
  · have h := (if_neg hc).symm.trans h
    obtain ⟨hz, rfl⟩ := rN_some h
    exact hB
theorem dX16_life_L17 (fu : Nat) {dn : Nat} {out : Int64 × Mm}   (a0 : Option Nat)  (M : Mm) (hB : DP dn M) (h : fX16_life_L17 fu  a0 M = some out) : DP dn out.2 := by
  unfold fX16_life_L17 at h
  obtain ⟨v1, ev1, h⟩ := bd h
  obtain rfl := Option.some.inj h
  exact hB
theorem dX16_life (fu : Nat) {dn : Nat} {out : Int64 × Mm}   (a0 : Option Nat)  (M : Mm) (hB : DP dn M) (h : fX16_life fu  a0 M = some out) : DP dn out.2 := by
  unfold fX16_life at h
  obtain ⟨v1, ev1, h⟩ := bd h
  by_cases hc : v1 = (6 : Int32)
  · have h := (if_pos hc).symm.trans h
    exact dX16_life_L17 fu    a0 M hB h
  · have h := (if_neg hc).symm.trans h
    obtain ⟨v2, ev2, h⟩ := bd h
    by_cases hc : v2 = (4 : Int32)
    · have h := (if_pos hc).symm.trans h
      exact dX16_life_L17 fu    a0 M hB h
    · have h := (if_neg hc).symm.trans h
      obtain ⟨v4, M3, eM3, h⟩ := b2d h
      have hB := dX16_isIdle fu  a0 M hB eM3
      by_cases hc : v4 = 0
      · have h := (if_pos hc).symm.trans h
        obtain rfl := Option.some.inj h
        exact hB
      · have h := (if_neg hc).symm.trans h
        obtain ⟨v5, ev5, h⟩ := bd h
        obtain rfl := Option.some.inj h
        exact hB
theorem dX16_lifeEnds (fu : Nat) {dn : Nat} {out : Mm}   (a0 : Nat) (a1 : Option Nat)  (M : Mm) (hB : DP dn M) (h : fX16_lifeEnds fu  a0 a1 M = some out) : DP dn out := by
  unfold fX16_lifeEnds at h
  obtain ⟨v1, ev1, h⟩ := bd h
  by_cases hc : v1 = (2 : Int32)
  · have h := (if_pos hc).symm.trans h
    obtain ⟨M4, eM4, h⟩ := bd h
    have hB := d_pZ hB eM4 (by decide)
    obtain ⟨q5, eq5, h⟩ := bd h
    obtain ⟨M6, eM6, h⟩ := bd h
    have hB := dX16_sendAll fu q5 a1 M4 hB eM6
    obtain rfl := Option.some.inj h
    exact hB
  · have h := (if_neg hc).symm.trans h
    obtain ⟨q2, eq2, h⟩ := bd h
    obtain ⟨M3, eM3, h⟩ := bd h
    have hB := dX16_gone fu q2 a1 M hB eM3
    obtain rfl := Option.some.inj h
    exact hB
theorem dX16_askDue (fu : Nat) {dn : Nat} {out : Int64 × Mm}   (a0 : Option Nat)  (M : Mm) (hB : DP dn M) (h : fX16_askDue fu  a0 M = some out) : DP dn out.2 := by
  unfold fX16_askDue at h
  obtain ⟨v1, ev1, h⟩ := bd h
  obtain ⟨v2, ev2, h⟩ := bd h
  obtain rfl := Option.some.inj h
  exact hB
theorem dX16_passTo_L385 (fu : Nat) {dn : Nat} {out : Mm} (k2 : Nat → Int32 → Int32 → Mm → Option (Mm)) (hk2 : ∀ (b0 : Nat) (b1 : Int32) (b2 : Int32)  (M : Mm), DP dn M → k2 b0 b1 b2 M = some out → DP dn out) (a0 : Nat) (a1 : Int32) (a2 : Int32)  (M : Mm) (hB : DP dn M) (h : fX16_passTo_L385 fu k2 a0 a1 a2 M = some out) : DP dn out := by
  unfold fX16_passTo_L385 at h
  exact hk2 a0 a1 a2 M hB h
theorem dX16_passTo_L296 (fu : Nat) {dn : Nat} {out : Mm} (k2 : Nat → Int32 → Int32 → Mm → Option (Mm)) (hk2 : ∀ (b0 : Nat) (b1 : Int32) (b2 : Int32)  (M : Mm), DP dn M → k2 b0 b1 b2 M = some out → DP dn out) (a0 : Nat) (a1 : Int32) (a3 : Int64) (a5 : Int32) (a6 : Int32) (s0 : Int32) (M : Mm) (hB : DP dn M) (h : fX16_passTo_L296 fu k2 a0 a1 a3 a5 a6 s0 M = some out) : DP dn out := by
  unfold fX16_passTo_L296 at h
  by_cases hc : s0 = 0
  · have h := (if_pos hc).symm.trans h
    exact dX16_passTo_L385 fu k2 hk2  a0 a1 s0 M hB h
  · have h := (if_neg hc).symm.trans h
    obtain ⟨v1, ev1, h⟩ := bd h
    obtain ⟨M2, eM2, h⟩ := bd h
    have hB := d_pF hB eM2 (by decide)
    by_cases hc : a5 = 0
    · have h := (if_pos hc).symm.trans h
      obtain ⟨v14, ev14, h⟩ := bd h
      obtain ⟨v15, ev15, h⟩ := bd h
      obtain ⟨q16, eq16, h⟩ := bd h
      obtain ⟨M17, eM17, h⟩ := bd h
      have hB := dX16_askAgain fu q16 v15 M2 hB eM17
      exact dX16_passTo_L385 fu k2 hk2  a0 a1 s0 M17 hB h
    · have h := (if_neg hc).symm.trans h
      by_cases hc : a5 = (1 : Int32)
      · have h := (if_pos hc).symm.trans h
        obtain ⟨v11, ev11, h⟩ := bd h
        obtain ⟨v12, ev12, h⟩ := bd h
        obtain ⟨M13, eM13, h⟩ := bd h
        have hB := d_pZ hB eM13 (by decide)
        exact dX16_passTo_L385 fu k2 hk2  a0 a1 s0 M13 hB h
      · have h := (if_neg hc).symm.trans h
        by_cases hc : a5 = (2 : Int32)
        · have h := (if_pos hc).symm.trans h
          obtain ⟨v7, ev7, h⟩ := bd h
          obtain ⟨v8, ev8, h⟩ := bd h
          obtain ⟨q9, eq9, h⟩ := bd h
          obtain ⟨M10, eM10, h⟩ := bd h
          have hB := dX16_runOut fu q9 v8 M2 hB eM10
          exact dX16_passTo_L385 fu k2 hk2  a0 a1 s0 M10 hB h
        · have h := (if_neg hc).symm.trans h
          obtain ⟨v3, ev3, h⟩ := bd h
          obtain ⟨v4, ev4, h⟩ := bd h
          obtain ⟨q5, eq5, h⟩ := bd h
          obtain ⟨M6, eM6, h⟩ := bd h
          have hB := dX16_lifeEnds fu q5 v4 M2 hB eM6
          exact dX16_passTo_L385 fu k2 hk2  a0 a1 s0 M6 hB h
theorem dX16_passTo_L278 (fu : Nat) {dn : Nat} {out : Mm} (k2 : Nat → Int32 → Int32 → Mm → Option (Mm)) (k195 : Nat → Int32 → Int64 → Int32 → Int32 → Int32 → Mm → Option (Mm)) (hk2 : ∀ (b0 : Nat) (b1 : Int32) (b2 : Int32)  (M : Mm), DP dn M → k2 b0 b1 b2 M = some out → DP dn out) (hk195 : ∀ (b0 : Nat) (b1 : Int32) (b3 : Int64) (b5 : Int32) (b6 : Int32) (b7 : Int32)  (M : Mm), DP dn M → k195 b0 b1 b3 b5 b6 b7 M = some out → DP dn out) (a0 : Nat) (a1 : Int32) (a3 : Int64) (a5 : Int32) (a6 : Int32) (a7 : Int32)  (M : Mm) (hB : DP dn M) (h : fX16_passTo_L278 fu k2 k195 a0 a1 a3 a5 a6 a7 M = some out) : DP dn out := by
  unfold fX16_passTo_L278 at h
  exact hk195 a0 a1 a3 a5 a6 (a7 + (1 : Int32)) M hB h
theorem dX16_passTo_L255 (fu : Nat) {dn : Nat} {out : Mm} (k2 : Nat → Int32 → Int32 → Mm → Option (Mm)) (k195 : Nat → Int32 → Int64 → Int32 → Int32 → Int32 → Mm → Option (Mm)) (hk2 : ∀ (b0 : Nat) (b1 : Int32) (b2 : Int32)  (M : Mm), DP dn M → k2 b0 b1 b2 M = some out → DP dn out) (hk195 : ∀ (b0 : Nat) (b1 : Int32) (b3 : Int64) (b5 : Int32) (b6 : Int32) (b7 : Int32)  (M : Mm), DP dn M → k195 b0 b1 b3 b5 b6 b7 M = some out → DP dn out) (a0 : Nat) (a1 : Int32) (a3 : Int64) (a5 : Int32) (a6 : Int32) (a7 : Int32) (a8 : Option Nat)  (M : Mm) (hB : DP dn M) (h : fX16_passTo_L255 fu k2 k195 a0 a1 a3 a5 a6 a7 a8 M = some out) : DP dn out := by
  unfold fX16_passTo_L255 at h
  obtain ⟨v2, M1, eM1, h⟩ := b2d h
  have hB := dX16_life fu  a8 M hB eM1
  by_cases hc : 0 ≤ (lg_cmp v2 a3)
  · have h := (if_pos hc).symm.trans h
    exact dX16_passTo_L278 fu k2 k195 hk2 hk195  a0 a1 a3 a5 a6 a7 M1 hB h
  · have h := (if_neg hc).symm.trans h
    obtain ⟨v4, M3, eM3, h⟩ := b2d h
    have hB := dX16_life fu  a8 M1 hB eM3
    exact dX16_passTo_L278 fu k2 k195 hk2 hk195  a0 a1 v4 (3 : Int32) a7 a7 M3 hB h
theorem dX16_passTo_L195 (fu : Nat) {dn : Nat} {out : Mm} (k2 : Nat → Int32 → Int32 → Mm → Option (Mm)) (hk2 : ∀ (b0 : Nat) (b1 : Int32) (b2 : Int32)  (M : Mm), DP dn M → k2 b0 b1 b2 M = some out → DP dn out) : ∀ (n : Nat) (a0 : Nat) (a1 : Int32) (a3 : Int64) (a5 : Int32) (a6 : Int32) (a7 : Int32)  (M : Mm), DP dn M → fX16_passTo_L195 fu k2 n a0 a1 a3 a5 a6 a7 M = some out → DP dn out := by
  intro n
  induction n with
  | zero =>
    intro a0 a1 a3 a5 a6 a7 M hB h
    have h : (none : Option (Mm)) = some out := h
    cases h
  | succ n ih =>
    intro a0 a1 a3 a5 a6 a7 M hB h
    rw [fX16_passTo_L195] at h
    by_cases hc : (16 : Int32) ≤ a7
    · have h := (if_pos hc).symm.trans h
      by_cases hc : 0 < (lg_cmp a3 (Int32.toInt64 a1))
      · have h := (if_pos hc).symm.trans h
        exact dX16_passTo_L296 fu k2 hk2  a0 a1 a3 a5 a6 (0 : Int32) M hB h
      · have h := (if_neg hc).symm.trans h
        exact dX16_passTo_L296 fu k2 hk2  a0 a1 a3 a5 a6 (1 : Int32) M hB h
    · have h := (if_neg hc).symm.trans h
      obtain ⟨v1, ev1, h⟩ := bd h
      obtain ⟨v2, ev2, h⟩ := bd h
      obtain ⟨v3, ev3, h⟩ := bd h
      by_cases hc : v3 = 0
      · have h := (if_pos hc).symm.trans h
        exact dX16_passTo_L278 fu k2 (fun b0 b1 b3 b5 b6 b7 M => fX16_passTo_L195 fu k2 n b0 b1 b3 b5 b6 b7 M) hk2 ih  a0 a1 a3 a5 a6 a7 M hB h
      · have h := (if_neg hc).symm.trans h
        obtain ⟨v4, ev4, h⟩ := bd h
        by_cases hc : v4 = 0
        · have h := (if_pos hc).symm.trans h
          exact dX16_passTo_L255 fu k2 (fun b0 b1 b3 b5 b6 b7 M => fX16_passTo_L195 fu k2 n b0 b1 b3 b5 b6 b7 M) hk2 ih  a0 a1 a3 a5 a6 a7 v2 M hB h
        · have h := (if_neg hc).symm.trans h
          obtain ⟨v5, ev5, h⟩ := bd h
          by_cases hc : 0 ≤ (lg_cmp (Int32.toInt64 v5) a3)
          · have h := (if_pos hc).symm.trans h
            exact dX16_passTo_L255 fu k2 (fun b0 b1 b3 b5 b6 b7 M => fX16_passTo_L195 fu k2 n b0 b1 b3 b5 b6 b7 M) hk2 ih  a0 a1 a3 a5 a6 a7 v2 M hB h
          · have h := (if_neg hc).symm.trans h
            obtain ⟨v6, ev6, h⟩ := bd h
            exact dX16_passTo_L255 fu k2 (fun b0 b1 b3 b5 b6 b7 M => fX16_passTo_L195 fu k2 n b0 b1 b3 b5 b6 b7 M) hk2 ih  a0 a1 (Int32.toInt64 v6) (2 : Int32) a7 a7 v2 M hB h
theorem dX16_passTo_L186 (fu : Nat) {dn : Nat} {out : Mm} (k2 : Nat → Int32 → Int32 → Mm → Option (Mm)) (k103 : Nat → Int32 → Int64 → Int32 → Int32 → Int32 → Mm → Option (Mm)) (hk2 : ∀ (b0 : Nat) (b1 : Int32) (b2 : Int32)  (M : Mm), DP dn M → k2 b0 b1 b2 M = some out → DP dn out) (hk103 : ∀ (b0 : Nat) (b1 : Int32) (b3 : Int64) (b5 : Int32) (b6 : Int32) (b7 : Int32)  (M : Mm), DP dn M → k103 b0 b1 b3 b5 b6 b7 M = some out → DP dn out) (a0 : Nat) (a1 : Int32) (a3 : Int64) (a5 : Int32) (a6 : Int32) (a7 : Int32)  (M : Mm) (hB : DP dn M) (h : fX16_passTo_L186 fu k2 k103 a0 a1 a3 a5 a6 a7 M = some out) : DP dn out := by
  unfold fX16_passTo_L186 at h
  exact hk103 a0 a1 a3 a5 a6 (a7 + (1 : Int32)) M hB h
theorem dX16_passTo_L176 (fu : Nat) {dn : Nat} {out : Mm} (k2 : Nat → Int32 → Int32 → Mm → Option (Mm)) (k103 : Nat → Int32 → Int64 → Int32 → Int32 → Int32 → Mm → Option (Mm)) (hk2 : ∀ (b0 : Nat) (b1 : Int32) (b2 : Int32)  (M : Mm), DP dn M → k2 b0 b1 b2 M = some out → DP dn out) (hk103 : ∀ (b0 : Nat) (b1 : Int32) (b3 : Int64) (b5 : Int32) (b6 : Int32) (b7 : Int32)  (M : Mm), DP dn M → k103 b0 b1 b3 b5 b6 b7 M = some out → DP dn out) (a0 : Nat) (a1 : Int32) (a7 : Int32) (a9 : Int64)  (M : Mm) (hB : DP dn M) (h : fX16_passTo_L176 fu k2 k103 a0 a1 a7 a9 M = some out) : DP dn out := by
  unfold fX16_passTo_L176 at h
  exact dX16_passTo_L186 fu k2 k103 hk2 hk103  a0 a1 a9 (1 : Int32) a7 a7 M hB h
theorem dX16_passTo_L103 (fu : Nat) {dn : Nat} {out : Mm} (k2 : Nat → Int32 → Int32 → Mm → Option (Mm)) (hk2 : ∀ (b0 : Nat) (b1 : Int32) (b2 : Int32)  (M : Mm), DP dn M → k2 b0 b1 b2 M = some out → DP dn out) : ∀ (n : Nat) (a0 : Nat) (a1 : Int32) (a3 : Int64) (a5 : Int32) (a6 : Int32) (a7 : Int32)  (M : Mm), DP dn M → fX16_passTo_L103 fu k2 n a0 a1 a3 a5 a6 a7 M = some out → DP dn out := by
  intro n
  induction n with
  | zero =>
    intro a0 a1 a3 a5 a6 a7 M hB h
    have h : (none : Option (Mm)) = some out := h
    cases h
  | succ n ih =>
    intro a0 a1 a3 a5 a6 a7 M hB h
    rw [fX16_passTo_L103] at h
    by_cases hc : (4 : Int32) ≤ a7
    · have h := (if_pos hc).symm.trans h
      exact dX16_passTo_L195 fu k2 hk2 fu a0 a1 a3 a5 a6 (0 : Int32) M hB h
    · have h := (if_neg hc).symm.trans h
      obtain ⟨v1, ev1, h⟩ := bd h
      obtain ⟨v2, ev2, h⟩ := bd h
      obtain ⟨v3, ev3, h⟩ := bd h
      obtain ⟨v4, ev4, h⟩ := bd h
      by_cases hc : v4 = 0
      · have h := (if_pos hc).symm.trans h
        exact dX16_passTo_L186 fu k2 (fun b0 b1 b3 b5 b6 b7 M => fX16_passTo_L103 fu k2 n b0 b1 b3 b5 b6 b7 M) hk2 ih  a0 a1 a3 a5 a6 a7 M hB h
      · have h := (if_neg hc).symm.trans h
        by_cases hc : (lg_cmp ((Int32.toInt64 v3) + (15000 : Int64)) a3) < 0
        · have h := (if_pos hc).symm.trans h
          exact dX16_passTo_L176 fu k2 (fun b0 b1 b3 b5 b6 b7 M => fX16_passTo_L103 fu k2 n b0 b1 b3 b5 b6 b7 M) hk2 ih  a0 a1 a7 ((Int32.toInt64 v3) + (15000 : Int64)) M hB h
        · have h := (if_neg hc).symm.trans h
          by_cases hc : (lg_cmp ((Int32.toInt64 v3) + (15000 : Int64)) a3) = 0
          · have h := (if_pos hc).symm.trans h
            by_cases hc : a5 = (1 : Int32)
            · have h := (if_pos hc).symm.trans h
              obtain ⟨v5, ev5, h⟩ := bd h
              obtain ⟨v6, ev6, h⟩ := bd h
              obtain ⟨v7, ev7, h⟩ := bd h
              obtain ⟨v8, ev8, h⟩ := bd h
              by_cases hc : v8 ≤ v5
              · have h := (if_pos hc).symm.trans h
                exact dX16_passTo_L186 fu k2 (fun b0 b1 b3 b5 b6 b7 M => fX16_passTo_L103 fu k2 n b0 b1 b3 b5 b6 b7 M) hk2 ih  a0 a1 a3 a5 a6 a7 M hB h
              · have h := (if_neg hc).symm.trans h
                exact dX16_passTo_L176 fu k2 (fun b0 b1 b3 b5 b6 b7 M => fX16_passTo_L103 fu k2 n b0 b1 b3 b5 b6 b7 M) hk2 ih  a0 a1 a7 ((Int32.toInt64 v3) + (15000 : Int64)) M hB h
            · have h := (if_neg hc).symm.trans h
              exact dX16_passTo_L186 fu k2 (fun b0 b1 b3 b5 b6 b7 M => fX16_passTo_L103 fu k2 n b0 b1 b3 b5 b6 b7 M) hk2 ih  a0 a1 a3 a5 a6 a7 M hB h
          · have h := (if_neg hc).symm.trans h
            exact dX16_passTo_L186 fu k2 (fun b0 b1 b3 b5 b6 b7 M => fX16_passTo_L103 fu k2 n b0 b1 b3 b5 b6 b7 M) hk2 ih  a0 a1 a3 a5 a6 a7 M hB h
theorem dX16_passTo_L94 (fu : Nat) {dn : Nat} {out : Mm} (k2 : Nat → Int32 → Int32 → Mm → Option (Mm)) (k19 : Nat → Int32 → Int64 → Int32 → Int32 → Int32 → Mm → Option (Mm)) (hk2 : ∀ (b0 : Nat) (b1 : Int32) (b2 : Int32)  (M : Mm), DP dn M → k2 b0 b1 b2 M = some out → DP dn out) (hk19 : ∀ (b0 : Nat) (b1 : Int32) (b3 : Int64) (b5 : Int32) (b6 : Int32) (b7 : Int32)  (M : Mm), DP dn M → k19 b0 b1 b3 b5 b6 b7 M = some out → DP dn out) (a0 : Nat) (a1 : Int32) (a3 : Int64) (a5 : Int32) (a6 : Int32) (a7 : Int32)  (M : Mm) (hB : DP dn M) (h : fX16_passTo_L94 fu k2 k19 a0 a1 a3 a5 a6 a7 M = some out) : DP dn out := by
  unfold fX16_passTo_L94 at h
  exact hk19 a0 a1 a3 a5 a6 (a7 + (1 : Int32)) M hB h
theorem dX16_passTo_L81 (fu : Nat) {dn : Nat} {out : Mm} (k2 : Nat → Int32 → Int32 → Mm → Option (Mm)) (k19 : Nat → Int32 → Int64 → Int32 → Int32 → Int32 → Mm → Option (Mm)) (hk2 : ∀ (b0 : Nat) (b1 : Int32) (b2 : Int32)  (M : Mm), DP dn M → k2 b0 b1 b2 M = some out → DP dn out) (hk19 : ∀ (b0 : Nat) (b1 : Int32) (b3 : Int64) (b5 : Int32) (b6 : Int32) (b7 : Int32)  (M : Mm), DP dn M → k19 b0 b1 b3 b5 b6 b7 M = some out → DP dn out) (a0 : Nat) (a1 : Int32) (a7 : Int32) (a8 : Option Nat)  (M : Mm) (hB : DP dn M) (h : fX16_passTo_L81 fu k2 k19 a0 a1 a7 a8 M = some out) : DP dn out := by
  unfold fX16_passTo_L81 at h
  obtain ⟨v2, M1, eM1, h⟩ := b2d h
  have hB := dX16_askDue fu  a8 M hB eM1
  exact dX16_passTo_L94 fu k2 k19 hk2 hk19  a0 a1 v2 (0 : Int32) a7 a7 M1 hB h
theorem dX16_passTo_L19 (fu : Nat) {dn : Nat} {out : Mm} (k2 : Nat → Int32 → Int32 → Mm → Option (Mm)) (hk2 : ∀ (b0 : Nat) (b1 : Int32) (b2 : Int32)  (M : Mm), DP dn M → k2 b0 b1 b2 M = some out → DP dn out) : ∀ (n : Nat) (a0 : Nat) (a1 : Int32) (a3 : Int64) (a5 : Int32) (a6 : Int32) (a7 : Int32)  (M : Mm), DP dn M → fX16_passTo_L19 fu k2 n a0 a1 a3 a5 a6 a7 M = some out → DP dn out := by
  intro n
  induction n with
  | zero =>
    intro a0 a1 a3 a5 a6 a7 M hB h
    have h : (none : Option (Mm)) = some out := h
    cases h
  | succ n ih =>
    intro a0 a1 a3 a5 a6 a7 M hB h
    rw [fX16_passTo_L19] at h
    by_cases hc : (8 : Int32) ≤ a7
    · have h := (if_pos hc).symm.trans h
      exact dX16_passTo_L103 fu k2 hk2 fu a0 a1 a3 a5 a6 (0 : Int32) M hB h
    · have h := (if_neg hc).symm.trans h
      obtain ⟨v1, ev1, h⟩ := bd h
      obtain ⟨v2, ev2, h⟩ := bd h
      obtain ⟨v3, ev3, h⟩ := bd h
      by_cases hc : v3 = 0
      · have h := (if_pos hc).symm.trans h
        exact dX16_passTo_L94 fu k2 (fun b0 b1 b3 b5 b6 b7 M => fX16_passTo_L19 fu k2 n b0 b1 b3 b5 b6 b7 M) hk2 ih  a0 a1 a3 a5 a6 a7 M hB h
      · have h := (if_neg hc).symm.trans h
        obtain ⟨v5, M4, eM4, h⟩ := b2d h
        have hB := dX16_askDue fu  v2 M hB eM4
        by_cases hc : (lg_cmp v5 a3) < 0
        · have h := (if_pos hc).symm.trans h
          exact dX16_passTo_L81 fu k2 (fun b0 b1 b3 b5 b6 b7 M => fX16_passTo_L19 fu k2 n b0 b1 b3 b5 b6 b7 M) hk2 ih  a0 a1 a7 v2 M4 hB h
        · have h := (if_neg hc).symm.trans h
          obtain ⟨v7, M6, eM6, h⟩ := b2d h
          have hB := dX16_askDue fu  v2 M4 hB eM6
          by_cases hc : (lg_cmp v7 a3) = 0
          · have h := (if_pos hc).symm.trans h
            obtain ⟨v8, ev8, h⟩ := bd h
            obtain ⟨v9, ev9, h⟩ := bd h
            obtain ⟨v10, ev10, h⟩ := bd h
            obtain ⟨v11, ev11, h⟩ := bd h
            by_cases hc : v11 ≤ v8
            · have h := (if_pos hc).symm.trans h
              exact dX16_passTo_L94 fu k2 (fun b0 b1 b3 b5 b6 b7 M => fX16_passTo_L19 fu k2 n b0 b1 b3 b5 b6 b7 M) hk2 ih  a0 a1 a3 a5 a6 a7 M6 hB h
            · have h := (if_neg hc).symm.trans h
              exact dX16_passTo_L81 fu k2 (fun b0 b1 b3 b5 b6 b7 M => fX16_passTo_L19 fu k2 n b0 b1 b3 b5 b6 b7 M) hk2 ih  a0 a1 a7 v2 M6 hB h
          · have h := (if_neg hc).symm.trans h
            exact dX16_passTo_L94 fu k2 (fun b0 b1 b3 b5 b6 b7 M => fX16_passTo_L19 fu k2 n b0 b1 b3 b5 b6 b7 M) hk2 ih  a0 a1 a3 a5 a6 a7 M6 hB h
theorem dX16_passTo_L2 (fu : Nat) {dn : Nat} {out : Mm}   : ∀ (n : Nat) (a0 : Nat) (a1 : Int32) (a2 : Int32)  (M : Mm), DP dn M → fX16_passTo_L2 fu  n a0 a1 a2 M = some out → DP dn out := by
  intro n
  induction n with
  | zero =>
    intro a0 a1 a2 M hB h
    have h : (none : Option (Mm)) = some out := h
    cases h
  | succ n ih =>
    intro a0 a1 a2 M hB h
    rw [fX16_passTo_L2] at h
    by_cases hc : a2 = 0
    · have h := (if_pos hc).symm.trans h
      obtain ⟨M1, eM1, h⟩ := bd h
      have hB := d_pF hB eM1 (by decide)
      obtain rfl := Option.some.inj h
      exact hB
    · have h := (if_neg hc).symm.trans h
      exact dX16_passTo_L19 fu (fun b0 b1 b2 M => fX16_passTo_L2 fu  n b0 b1 b2 M) ih fu a0 a1 (9223372036854775807 : Int64) (-1 : Int32) (0 : Int32) (0 : Int32) M hB h
theorem dX16_passTo (fu : Nat) {dn : Nat} {out : Mm}   (a0 : Nat) (a1 : Int32)  (M : Mm) (hB : DP dn M) (h : fX16_passTo fu  a0 a1 M = some out) : DP dn out := by
  unfold fX16_passTo at h
  exact dX16_passTo_L2 fu   fu a0 a1 (1 : Int32) M hB h
theorem dX16_refused (fu : Nat) {dn : Nat} {out : Int32 × Mm}   (a0 : Nat) (a1 : Int32)  (M : Mm) (hB : DP dn M) (h : fX16_refused fu  a0 a1 M = some out) : DP dn out.2 := by
  unfold fX16_refused at h
  obtain ⟨v1, ev1, h⟩ := bd h
  by_cases hc : v1 = 0
  · have h := (if_pos hc).symm.trans h
    obtain rfl := Option.some.inj h
    exact hB
  · have h := (if_neg hc).symm.trans h
    obtain ⟨v2, ev2, h⟩ := bd h
    by_cases hc : a1 < v2
    · have h := (if_pos hc).symm.trans h
      obtain rfl := Option.some.inj h
      exact hB
    · have h := (if_neg hc).symm.trans h
      by_cases hc : (2000000000 : Int32) < a1
      · have h := (if_pos hc).symm.trans h
        obtain rfl := Option.some.inj h
        exact hB
      · have h := (if_neg hc).symm.trans h
        obtain ⟨v3, ev3, h⟩ := bd h
        by_cases hc : (a1 - v3) ≤ (600000 : Int32)
        · have h := (if_pos hc).symm.trans h
          obtain rfl := Option.some.inj h
          exact hB
        · have h := (if_neg hc).symm.trans h
          obtain rfl := Option.some.inj h
          exact hB
theorem dX16_frameIn_L74 (fu : Nat) {dn : Nat} (hn : dn < 1000000) {out : Mm}   (a0 : Nat)  (M : Mm) (hB : DP dn M) (h : fX16_frameIn_L74 fu  a0 M = some out) : DP (dn + 1) out := by
  unfold fX16_frameIn_L74 at h
  obtain ⟨q1, eq1, h⟩ := bd h
  obtain ⟨v3, M2, eM2, h⟩ := b2d h
  have hB := dX16_trayHalf fu q1 (12 : Int32) M hB eM2
  by_cases hc : v3 = (2054 : Int32)
  · have h := (if_pos hc).symm.trans h
    obtain ⟨q9, eq9, h⟩ := bd h
    obtain ⟨M10, eM10, h⟩ := bd h
    have hB := dX16_arp fu q9  M2 hB eM10
    obtain rfl := Option.some.inj h
    exact DP_s hB
  · have h := (if_neg hc).symm.trans h
    obtain ⟨q4, eq4, h⟩ := bd h
    obtain ⟨v6, M5, eM5, h⟩ := b2d h
    have hB := dX16_trayHalf fu q4 (12 : Int32) M2 hB eM5
    by_cases hc : v6 = (2048 : Int32)
    · have h := (if_pos hc).symm.trans h
      obtain ⟨q7, eq7, h⟩ := bd h
      obtain ⟨M8, eM8, h⟩ := bd h
      have hB := dX16_ipIn fu hn q7  M5 hB eM8
      obtain rfl := Option.some.inj h
      exact hB
    · have h := (if_neg hc).symm.trans h
      obtain rfl := Option.some.inj h
      exact DP_s hB
theorem dX16_frameIn_L64 (fu : Nat) {dn : Nat} (hn : dn < 1000000) {out : Mm}   (a0 : Nat) (a1 : Int32) (s0 : Int32) (M : Mm) (hB : DP dn M) (h : fX16_frameIn_L64 fu  a0 a1 s0 M = some out) : DP (dn + 1) out := by
  unfold fX16_frameIn_L64 at h
  by_cases hc : a1 = 0
  · have h := (if_pos hc).symm.trans h
    by_cases hc : s0 = 0
    · have h := (if_pos hc).symm.trans h
      obtain rfl := Option.some.inj h
      exact DP_s hB
    · have h := (if_neg hc).symm.trans h
      exact dX16_frameIn_L74 fu hn    a0 M hB h
  · have h := (if_neg hc).symm.trans h
    exact dX16_frameIn_L74 fu hn    a0 M hB h
theorem dX16_frameIn_L63 (fu : Nat) {dn : Nat} (hn : dn < 1000000) {out : Mm}   (a0 : Nat) (a1 : Int32)  (M : Mm) (hB : DP dn M) (h : fX16_frameIn_L63 fu  a0 a1 M = some out) : DP (dn + 1) out := by
  unfold fX16_frameIn_L63 at h
  exact dX16_frameIn_L64 fu hn    a0 a1 (0 : Int32) M hB h
theorem dX16_frameIn_L39 (fu : Nat) {dn : Nat} (hn : dn < 1000000) {out : Mm}   (a0 : Nat) (s0 : Int32) (M : Mm) (hB : DP dn M) (h : fX16_frameIn_L39 fu  a0 s0 M = some out) : DP (dn + 1) out := by
  unfold fX16_frameIn_L39 at h
  obtain ⟨q1, eq1, h⟩ := bd h
  obtain ⟨v3, M2, eM2, h⟩ := b2d h
  have hB := dX16_trayHalf fu q1 (0 : Int32) M hB eM2
  by_cases hc : v3 = (65535 : Int32)
  · have h := (if_pos hc).symm.trans h
    obtain ⟨q4, eq4, h⟩ := bd h
    obtain ⟨v6, M5, eM5, h⟩ := b2d h
    have hB := dX16_trayWord fu q4 (2 : Int32) M2 hB eM5
    by_cases hc : v6 = (-1 : Int32)
    · have h := (if_pos hc).symm.trans h
      exact dX16_frameIn_L64 fu hn    a0 s0 (1 : Int32) M5 hB h
    · have h := (if_neg hc).symm.trans h
      exact dX16_frameIn_L63 fu hn    a0 s0 M5 hB h
  · have h := (if_neg hc).symm.trans h
    exact dX16_frameIn_L63 fu hn    a0 s0 M2 hB h
theorem dX16_frameIn_L38 (fu : Nat) {dn : Nat} (hn : dn < 1000000) {out : Mm}   (a0 : Nat)  (M : Mm) (hB : DP dn M) (h : fX16_frameIn_L38 fu  a0 M = some out) : DP (dn + 1) out := by
  unfold fX16_frameIn_L38 at h
  exact dX16_frameIn_L39 fu hn    a0 (0 : Int32) M hB h
theorem dX16_frameIn (fu : Nat) {dn : Nat} (hn : dn < 1000000) {out : Mm}   (a0 : Nat)  (M : Mm) (hB : DP dn M) (h : fX16_frameIn fu  a0 M = some out) : DP (dn + 1) out := by
  unfold fX16_frameIn at h
  obtain ⟨v1, ev1, h⟩ := bd h
  by_cases hc : (14 : Int32) ≤ v1
  · have h := (if_pos hc).symm.trans h
    obtain ⟨q2, eq2, h⟩ := bd h
    obtain ⟨v4, M3, eM3, h⟩ := b2d h
    have hB := dX16_trayHalf fu q2 (0 : Int32) M hB eM3
    obtain ⟨v5, ev5, h⟩ := bd h
    by_cases hc : v4 = v5
    · have h := (if_pos hc).symm.trans h
      obtain ⟨q6, eq6, h⟩ := bd h
      obtain ⟨v8, M7, eM7, h⟩ := b2d h
      have hB := dX16_trayWord fu q6 (2 : Int32) M3 hB eM7
      obtain ⟨v9, ev9, h⟩ := bd h
      by_cases hc : v8 = v9
      · have h := (if_pos hc).symm.trans h
        exact dX16_frameIn_L39 fu hn    a0 (1 : Int32) M7 hB h
      · have h := (if_neg hc).symm.trans h
        exact dX16_frameIn_L38 fu hn    a0 M7 hB h
    · have h := (if_neg hc).symm.trans h
      exact dX16_frameIn_L38 fu hn    a0 M3 hB h
  · have h := (if_neg hc).symm.trans h
    obtain rfl := Option.some.inj h
    exact DP_s hB
theorem dX16_arrive (fu : Nat) {dn : Nat} (hn : dn < 1000000) {out : Int32 × Mm}   (a0 : Nat) (a1 : Int32)  (M : Mm) (hB : DP dn M) (h : fX16_arrive fu  a0 a1 M = some out) : DP (dn + 1) out.2 := by
  unfold fX16_arrive at h
  obtain ⟨q1, eq1, h⟩ := bd h
  obtain ⟨v3, M2, eM2, h⟩ := b2d h
  have hB := dX16_refused fu q1 a1 M hB eM2
  by_cases hc : 0 ≤ v3
  · have h := (if_pos hc).symm.trans h
    obtain ⟨v4, ev4, h⟩ := bd h
    by_cases hc : v4 = 0
    · have h := (if_pos hc).symm.trans h
      obtain rfl := Option.some.inj h
      exact DP_s hB
    · have h := (if_neg hc).symm.trans h
      obtain ⟨v5, ev5, h⟩ := bd h
      by_cases hc : v5 ≤ (1514 : Int32)
      · have h := (if_pos hc).symm.trans h
        obtain ⟨v6, ev6, h⟩ := bd h
        obtain ⟨q7, eq7, h⟩ := bd h
        obtain ⟨M8, eM8, h⟩ := bd h
        have hB := dX16_passTo fu q7 a1 M2 hB eM8
        obtain ⟨v9, ev9, h⟩ := bd h
        obtain ⟨v10, ev10, h⟩ := bd h
        obtain ⟨M11, eM11, h⟩ := bd h
        have hB := d_pA hB eM11
        obtain ⟨q12, eq12, h⟩ := bd h
        obtain ⟨M13, eM13, h⟩ := bd h
        have hB := dX16_frameIn fu hn q12  M11 hB eM13
        obtain ⟨M14, eM14, h⟩ := bd h
        have hB := d_pF hB eM14 (by decide)
        obtain ⟨v15, ev15, h⟩ := bd h
        obtain rfl := Option.some.inj h
        exact hB
      · have h := (if_neg hc).symm.trans h
        obtain rfl := Option.some.inj h
        exact DP_s hB
  · have h := (if_neg hc).symm.trans h
    obtain rfl := Option.some.inj h
    exact DP_s hB
theorem dX16_pass (fu : Nat) {dn : Nat} {out : Int32 × Mm}   (a0 : Nat) (a1 : Int32)  (M : Mm) (hB : DP dn M) (h : fX16_pass fu  a0 a1 M = some out) : DP dn out.2 := by
  unfold fX16_pass at h
  obtain ⟨q1, eq1, h⟩ := bd h
  obtain ⟨v3, M2, eM2, h⟩ := b2d h
  have hB := dX16_refused fu q1 a1 M hB eM2
  by_cases hc : 0 ≤ v3
  · have h := (if_pos hc).symm.trans h
    obtain ⟨v4, ev4, h⟩ := bd h
    obtain ⟨q5, eq5, h⟩ := bd h
    obtain ⟨M6, eM6, h⟩ := bd h
    have hB := dX16_passTo fu q5 a1 M2 hB eM6
    obtain ⟨v7, ev7, h⟩ := bd h
    obtain rfl := Option.some.inj h
    exact hB
  · have h := (if_neg hc).symm.trans h
    obtain rfl := Option.some.inj h
    exact hB
theorem dX16_now (fu : Nat) {dn : Nat} {out : Int32 × Mm}   (a0 : Nat)  (M : Mm) (hB : DP dn M) (h : fX16_now fu  a0 M = some out) : DP dn out.2 := by
  unfold fX16_now at h
  obtain ⟨v1, ev1, h⟩ := bd h
  by_cases hc : v1 = 0
  · have h := (if_pos hc).symm.trans h
    obtain rfl := Option.some.inj h
    exact hB
  · have h := (if_neg hc).symm.trans h
    obtain ⟨v2, ev2, h⟩ := bd h
    obtain rfl := Option.some.inj h
    exact hB
theorem dX16_sent (fu : Nat) {dn : Nat} {out : Int32 × Mm}   (a0 : Nat)  (M : Mm) (hB : DP dn M) (h : fX16_sent fu  a0 M = some out) : DP dn out.2 := by
  unfold fX16_sent at h
  obtain ⟨v1, ev1, h⟩ := bd h
  by_cases hc : v1 = 0
  · have h := (if_pos hc).symm.trans h
    obtain rfl := Option.some.inj h
    exact hB
  · have h := (if_neg hc).symm.trans h
    obtain ⟨v2, ev2, h⟩ := bd h
    obtain rfl := Option.some.inj h
    exact hB
theorem dX16_slot (fu : Nat) {dn : Nat} {out : Int32 × Mm}   (a0 : Nat) (a1 : Int32)  (M : Mm) (hB : DP dn M) (h : fX16_slot fu  a0 a1 M = some out) : DP dn out.2 := by
  unfold fX16_slot at h
  obtain ⟨v1, ev1, h⟩ := bd h
  by_cases hc : v1 = 0
  · have h := (if_pos hc).symm.trans h
    obtain rfl := Option.some.inj h
    exact hB
  · have h := (if_neg hc).symm.trans h
    by_cases hc : a1 < 0
    · have h := (if_pos hc).symm.trans h
      obtain rfl := Option.some.inj h
      exact hB
    · have h := (if_neg hc).symm.trans h
      by_cases hc : (32 : Int32) ≤ a1
      · have h := (if_pos hc).symm.trans h
        obtain rfl := Option.some.inj h
        exact hB
      · have h := (if_neg hc).symm.trans h
        obtain ⟨v2, ev2, h⟩ := bd h
        by_cases hc : v2 ≤ a1
        · have h := (if_pos hc).symm.trans h
          obtain rfl := Option.some.inj h
          exact hB
        · have h := (if_neg hc).symm.trans h
          obtain ⟨v3, ev3, h⟩ := bd h
          obtain rfl := Option.some.inj h
          exact hB
theorem dX16_length (fu : Nat) {dn : Nat} {out : Int32 × Mm}   (a0 : Nat) (a1 : Int32)  (M : Mm) (hB : DP dn M) (h : fX16_length fu  a0 a1 M = some out) : DP dn out.2 := by
  unfold fX16_length at h
  obtain ⟨q1, eq1, h⟩ := bd h
  obtain ⟨v3, M2, eM2, h⟩ := b2d h
  have hB := dX16_slot fu q1 a1 M hB eM2
  by_cases hc : 0 ≤ v3
  · have h := (if_pos hc).symm.trans h
    obtain ⟨v4, ev4, h⟩ := bd h
    obtain ⟨q5, eq5, h⟩ := bd h
    obtain ⟨v7, M6, eM6, h⟩ := b2d h
    have hB := dX16_slot fu q5 a1 M2 hB eM6
    obtain ⟨v8, ev8, h⟩ := bd h
    obtain rfl := Option.some.inj h
    exact hB
  · have h := (if_neg hc).symm.trans h
    obtain rfl := Option.some.inj h
    exact hB
theorem dX16_at (fu : Nat) {dn : Nat} {out : Int32 × Mm}   (a0 : Nat) (a1 : Int32) (a2 : Int32)  (M : Mm) (hB : DP dn M) (h : fX16_at fu  a0 a1 a2 M = some out) : DP dn out.2 := by
  unfold fX16_at at h
  obtain ⟨q1, eq1, h⟩ := bd h
  obtain ⟨v3, M2, eM2, h⟩ := b2d h
  have hB := dX16_slot fu q1 a1 M hB eM2
  by_cases hc : v3 < 0
  · have h := (if_pos hc).symm.trans h
    obtain rfl := Option.some.inj h
    exact hB
  · have h := (if_neg hc).symm.trans h
    by_cases hc : a2 < 0
    · have h := (if_pos hc).symm.trans h
      obtain rfl := Option.some.inj h
      exact hB
    · have h := (if_neg hc).symm.trans h
      obtain ⟨v4, ev4, h⟩ := bd h
      obtain ⟨v5, ev5, h⟩ := bd h
      by_cases hc : a2 < v5
      · have h := (if_pos hc).symm.trans h
        obtain ⟨v6, ev6, h⟩ := bd h
        obtain ⟨v7, ev7, h⟩ := bd h
        obtain rfl := Option.some.inj h
        exact hB
      · have h := (if_neg hc).symm.trans h
        obtain rfl := Option.some.inj h
        exact hB
theorem dX16_time (fu : Nat) {dn : Nat} {out : Int32 × Mm}   (a0 : Nat) (a1 : Int32)  (M : Mm) (hB : DP dn M) (h : fX16_time fu  a0 a1 M = some out) : DP dn out.2 := by
  unfold fX16_time at h
  obtain ⟨q1, eq1, h⟩ := bd h
  obtain ⟨v3, M2, eM2, h⟩ := b2d h
  have hB := dX16_slot fu q1 a1 M hB eM2
  by_cases hc : 0 ≤ v3
  · have h := (if_pos hc).symm.trans h
    obtain ⟨v4, ev4, h⟩ := bd h
    obtain ⟨q5, eq5, h⟩ := bd h
    obtain ⟨v7, M6, eM6, h⟩ := b2d h
    have hB := dX16_slot fu q5 a1 M2 hB eM6
    obtain ⟨v8, ev8, h⟩ := bd h
    obtain rfl := Option.some.inj h
    exact hB
  · have h := (if_neg hc).symm.trans h
    obtain rfl := Option.some.inj h
    exact hB
theorem dX16_state (fu : Nat) {dn : Nat} {out : Int32 × Mm}   (a0 : Nat) (a1 : Int32)  (M : Mm) (hB : DP dn M) (h : fX16_state fu  a0 a1 M = some out) : DP dn out.2 := by
  unfold fX16_state at h
  by_cases hc : a1 < 0
  · have h := (if_pos hc).symm.trans h
    obtain rfl := Option.some.inj h
    exact hB
  · have h := (if_neg hc).symm.trans h
    by_cases hc : a1 < (16 : Int32)
    · have h := (if_pos hc).symm.trans h
      obtain ⟨v1, ev1, h⟩ := bd h
      by_cases hc : v1 = 0
      · have h := (if_pos hc).symm.trans h
        obtain rfl := Option.some.inj h
        exact hB
      · have h := (if_neg hc).symm.trans h
        obtain ⟨v2, ev2, h⟩ := bd h
        obtain ⟨v3, ev3, h⟩ := bd h
        obtain ⟨v4, ev4, h⟩ := bd h
        obtain rfl := Option.some.inj h
        exact hB
    · have h := (if_neg hc).symm.trans h
      obtain rfl := Option.some.inj h
      exact hB
theorem dX16_look (fu : Nat) {dn : Nat} {out : Int64 × Mm}   (a0 : Nat) (a1 : Int32) (a2 : Int32)  (M : Mm) (hB : DP dn M) (h : fX16_look fu  a0 a1 a2 M = some out) : DP dn out.2 := by
  unfold fX16_look at h
  obtain ⟨q1, eq1, h⟩ := bd h
  obtain ⟨v3, M2, eM2, h⟩ := b2d h
  have hB := dX16_state fu q1 a1 M hB eM2
  by_cases hc : 0 < v3
  · have h := (if_pos hc).symm.trans h
    obtain ⟨v4, ev4, h⟩ := bd h
    obtain ⟨v5, ev5, h⟩ := bd h
    by_cases hc0 : a2 = (0 : Int32)
    · have h := (if_pos hc0).symm.trans h
      obtain ⟨v6, ev6, h⟩ := bd h
      obtain rfl := Option.some.inj h
      exact hB
    have h := (if_neg hc0).symm.trans h
    by_cases hc1 : a2 = (1 : Int32)
    · have h := (if_pos hc1).symm.trans h
      obtain ⟨v7, ev7, h⟩ := bd h
      obtain rfl := Option.some.inj h
      exact hB
    have h := (if_neg hc1).symm.trans h
    by_cases hc2 : a2 = (2 : Int32)
    · have h := (if_pos hc2).symm.trans h
      obtain ⟨v8, ev8, h⟩ := bd h
      obtain rfl := Option.some.inj h
      exact hB
    have h := (if_neg hc2).symm.trans h
    by_cases hc3 : a2 = (3 : Int32)
    · have h := (if_pos hc3).symm.trans h
      obtain ⟨v9, ev9, h⟩ := bd h
      obtain rfl := Option.some.inj h
      exact hB
    have h := (if_neg hc3).symm.trans h
    by_cases hc4 : a2 = (4 : Int32)
    · have h := (if_pos hc4).symm.trans h
      obtain ⟨v10, ev10, h⟩ := bd h
      obtain rfl := Option.some.inj h
      exact hB
    have h := (if_neg hc4).symm.trans h
    by_cases hc5 : a2 = (5 : Int32)
    · have h := (if_pos hc5).symm.trans h
      obtain ⟨v11, ev11, h⟩ := bd h
      obtain rfl := Option.some.inj h
      exact hB
    have h := (if_neg hc5).symm.trans h
    by_cases hc6 : a2 = (6 : Int32)
    · have h := (if_pos hc6).symm.trans h
      obtain ⟨v12, ev12, h⟩ := bd h
      obtain rfl := Option.some.inj h
      exact hB
    have h := (if_neg hc6).symm.trans h
    by_cases hc7 : a2 = (7 : Int32)
    · have h := (if_pos hc7).symm.trans h
      obtain ⟨v13, ev13, h⟩ := bd h
      obtain rfl := Option.some.inj h
      exact hB
    have h := (if_neg hc7).symm.trans h
    by_cases hc8 : a2 = (8 : Int32)
    · have h := (if_pos hc8).symm.trans h
      obtain ⟨v14, ev14, h⟩ := bd h
      obtain rfl := Option.some.inj h
      exact hB
    have h := (if_neg hc8).symm.trans h
    by_cases hc9 : a2 = (9 : Int32)
    · have h := (if_pos hc9).symm.trans h
      obtain ⟨v15, ev15, h⟩ := bd h
      obtain rfl := Option.some.inj h
      exact hB
    have h := (if_neg hc9).symm.trans h
    by_cases hc10 : a2 = (10 : Int32)
    · have h := (if_pos hc10).symm.trans h
      obtain ⟨v16, ev16, h⟩ := bd h
      obtain rfl := Option.some.inj h
      exact hB
    have h := (if_neg hc10).symm.trans h
    by_cases hc11 : a2 = (11 : Int32)
    · have h := (if_pos hc11).symm.trans h
      obtain ⟨q17, eq17, h⟩ := bd h
      obtain ⟨v19, M18, eM18, h⟩ := b2d h
      have hB := dX12_held fu q17  M2 hB eM18
      obtain rfl := Option.some.inj h
      exact hB
    have h := (if_neg hc11).symm.trans h
    by_cases hc12 : a2 = (12 : Int32)
    · have h := (if_pos hc12).symm.trans h
      obtain ⟨v20, ev20, h⟩ := bd h
      by_cases hc : v20 = (1 : Int32)
      · have h := (if_pos hc).symm.trans h
        obtain rfl := Option.some.inj h
        exact hB
      · have h := (if_neg hc).symm.trans h
        obtain ⟨v21, ev21, h⟩ := bd h
        obtain ⟨q22, eq22, h⟩ := bd h
        obtain ⟨v24, M23, eM23, h⟩ := b2d h
        have hB := dX12_left fu q22 v21 M2 hB eM23
        obtain rfl := Option.some.inj h
        exact hB
    have h := (if_neg hc12).symm.trans h
    by_cases hc13 : a2 = (13 : Int32)
    · have h := (if_pos hc13).symm.trans h
      obtain ⟨v25, ev25, h⟩ := bd h
      obtain rfl := Option.some.inj h
      exact hB
    have h := (if_neg hc13).symm.trans h
    by_cases hc14 : a2 = (14 : Int32)
    · have h := (if_pos hc14).symm.trans h
      obtain ⟨v26, ev26, h⟩ := bd h
      obtain rfl := Option.some.inj h
      exact hB
    have h := (if_neg hc14).symm.trans h
    obtain rfl := Option.some.inj h
    exact hB
  · have h := (if_neg hc).symm.trans h
    obtain rfl := Option.some.inj h
    exact hB
theorem dX16_cached (fu : Nat) {dn : Nat} {out : Int32 × Mm}   (a0 : Nat) (a1 : Int32)  (M : Mm) (hB : DP dn M) (h : fX16_cached fu  a0 a1 M = some out) : DP dn out.2 := by
  unfold fX16_cached at h
  obtain ⟨v1, ev1, h⟩ := bd h
  by_cases hc : v1 = 0
  · have h := (if_pos hc).symm.trans h
    obtain ⟨hz, rfl⟩ := rN_some h
    exact hB
  · have h := (if_neg hc).symm.trans h
    obtain ⟨q2, eq2, h⟩ := bd h
    obtain ⟨v4, M3, eM3, h⟩ := b2d h
    have hB := dX16_counting fu q2 a1 M hB eM3
    by_cases hc : v4 = none
    · have h := (if_pos hc).symm.trans h
      obtain ⟨hz, rfl⟩ := rN_some h
      exact hB
    · have h := (if_neg hc).symm.trans h
      obtain ⟨hz, rfl⟩ := rN_some h
      exact hB
theorem dX16_waiting_L32 (fu : Nat) {dn : Nat} {out : Int32 × Mm} (k4 : Nat → Int32 → Int32 → Mm → Option (Int32 × Mm)) (hk4 : ∀ (b0 : Nat) (b1 : Int32) (b2 : Int32)  (M : Mm), DP dn M → k4 b0 b1 b2 M = some out → DP dn out.2) (a0 : Nat) (a1 : Int32) (a2 : Int32)  (M : Mm) (hB : DP dn M) (h : fX16_waiting_L32 fu k4 a0 a1 a2 M = some out) : DP dn out.2 := by
  unfold fX16_waiting_L32 at h
  exact hk4 a0 a1 (a2 + (1 : Int32)) M hB h
theorem dX16_waiting_L4 (fu : Nat) {dn : Nat} {out : Int32 × Mm}   : ∀ (n : Nat) (a0 : Nat) (a1 : Int32) (a2 : Int32)  (M : Mm), DP dn M → fX16_waiting_L4 fu  n a0 a1 a2 M = some out → DP dn out.2 := by
  intro n
  induction n with
  | zero =>
    intro a0 a1 a2 M hB h
    have h : (none : Option (Int32 × Mm)) = some out := h
    cases h
  | succ n ih =>
    intro a0 a1 a2 M hB h
    rw [fX16_waiting_L4] at h
    by_cases hc : (8 : Int32) ≤ a2
    · have h := (if_pos hc).symm.trans h
      obtain rfl := Option.some.inj h
      exact hB
    · have h := (if_neg hc).symm.trans h
      obtain ⟨v1, ev1, h⟩ := bd h
      by_cases hc : v1 = 0
      · have h := (if_pos hc).symm.trans h
        obtain rfl := Option.some.inj h
        exact hB
      · have h := (if_neg hc).symm.trans h
        obtain ⟨v2, ev2, h⟩ := bd h
        obtain ⟨v3, ev3, h⟩ := bd h
        obtain ⟨v4, ev4, h⟩ := bd h
        by_cases hc : v4 = 0
        · have h := (if_pos hc).symm.trans h
          exact dX16_waiting_L32 fu (fun b0 b1 b2 M => fX16_waiting_L4 fu  n b0 b1 b2 M) ih  a0 a1 a2 M hB h
        · have h := (if_neg hc).symm.trans h
          exact dX16_waiting_L32 fu (fun b0 b1 b2 M => fX16_waiting_L4 fu  n b0 b1 b2 M) ih  a0 (a1 + (1 : Int32)) a2 M hB h
theorem dX16_waiting (fu : Nat) {dn : Nat} {out : Int32 × Mm}   (a0 : Nat)  (M : Mm) (hB : DP dn M) (h : fX16_waiting fu  a0 M = some out) : DP dn out.2 := by
  unfold fX16_waiting at h
  exact dX16_waiting_L4 fu   fu a0 (0 : Int32) (0 : Int32) M hB h
theorem dX16_counted (fu : Nat) {dn : Nat} {out : Int32 × Mm}   (a0 : Nat) (a1 : Int32)  (M : Mm) (hB : DP dn M) (h : fX16_counted fu  a0 a1 M = some out) : DP dn out.2 := by
  unfold fX16_counted at h
  obtain ⟨v1, ev1, h⟩ := bd h
  by_cases hc : v1 = 0
  · have h := (if_pos hc).symm.trans h
    obtain rfl := Option.some.inj h
    exact hB
  · have h := (if_neg hc).symm.trans h
    by_cases hc : a1 < 0
    · have h := (if_pos hc).symm.trans h
      obtain rfl := Option.some.inj h
      exact hB
    · have h := (if_neg hc).symm.trans h
      by_cases hc : (8 : Int32) ≤ a1
      · have h := (if_pos hc).symm.trans h
        obtain rfl := Option.some.inj h
        exact hB
      · have h := (if_neg hc).symm.trans h
        obtain ⟨v2, ev2, h⟩ := bd h
        obtain ⟨v3, ev3, h⟩ := bd h
        obtain rfl := Option.some.inj h
        exact hB
theorem dX16_damage_L79 (fu : Nat) {dn : Nat} {out : Int32 × Mm}   (a0 : Nat) (a1 : Int32) (a2 : Int32)  (M : Mm) (hB : DP dn M) (h : fX16_damage_L79 fu  a0 a1 a2 M = some out) : DP dn out.2 := by
  unfold fX16_damage_L79 at h
  obtain ⟨v1, ev1, h⟩ := bd h
  obtain ⟨M2, eM2, h⟩ := bd h
  have hB := d_pA hB eM2
  obtain ⟨hz, rfl⟩ := rN_some h
  exact hB
theorem dX16_damage_L73 (fu : Nat) {dn : Nat} {out : Int32 × Mm} (k16 : Nat → Int32 → Int32 → Int32 → Mm → Option (Int32 × Mm)) (hk16 : ∀ (b0 : Nat) (b1 : Int32) (b2 : Int32) (b3 : Int32)  (M : Mm), DP dn M → k16 b0 b1 b2 b3 M = some out → DP dn out.2) (a0 : Nat) (a1 : Int32) (a2 : Int32) (a3 : Int32)  (M : Mm) (hB : DP dn M) (h : fX16_damage_L73 fu k16 a0 a1 a2 a3 M = some out) : DP dn out.2 := by
  unfold fX16_damage_L73 at h
  exact hk16 a0 a1 a2 (a3 + (1 : Int32)) M hB h
theorem dX16_damage_L16 (fu : Nat) {dn : Nat} {out : Int32 × Mm}   : ∀ (n : Nat) (a0 : Nat) (a1 : Int32) (a2 : Int32) (a3 : Int32)  (M : Mm), DP dn M → fX16_damage_L16 fu  n a0 a1 a2 a3 M = some out → DP dn out.2 := by
  intro n
  induction n with
  | zero =>
    intro a0 a1 a2 a3 M hB h
    have h : (none : Option (Int32 × Mm)) = some out := h
    cases h
  | succ n ih =>
    intro a0 a1 a2 a3 M hB h
    rw [fX16_damage_L16] at h
    by_cases hc : (16 : Int32) ≤ a3
    · have h := (if_pos hc).symm.trans h
      exact dX16_damage_L79 fu    a0 a1 a2 M hB h
    · have h := (if_neg hc).symm.trans h
      obtain ⟨v1, ev1, h⟩ := bd h
      by_cases hc : v1 = 0
      · have h := (if_pos hc).symm.trans h
        exact dX16_damage_L79 fu    a0 a1 a2 M hB h
      · have h := (if_neg hc).symm.trans h
        obtain ⟨v2, ev2, h⟩ := bd h
        obtain ⟨v3, ev3, h⟩ := bd h
        obtain ⟨v4, ev4, h⟩ := bd h
        by_cases hc : v4 = 0
        · have h := (if_pos hc).symm.trans h
          exact dX16_damage_L73 fu (fun b0 b1 b2 b3 M => fX16_damage_L16 fu  n b0 b1 b2 b3 M) ih  a0 a1 a2 a3 M hB h
        · have h := (if_neg hc).symm.trans h
          obtain ⟨v5, ev5, h⟩ := bd h
          obtain ⟨v6, ev6, h⟩ := bd h
          by_cases hc : v5 = v6
          · have h := (if_pos hc).symm.trans h
            obtain ⟨v7, ev7, h⟩ := bd h
            obtain ⟨q8, eq8, h⟩ := bd h
            obtain ⟨v10, M9, eM9, h⟩ := b2d h
            have hB := dX12_left fu q8 v7 M hB eM9
            by_cases hc : v10 ≤ 0
            · have h := (if_pos hc).symm.trans h
              exact dX16_damage_L73 fu (fun b0 b1 b2 b3 M => fX16_damage_L16 fu  n b0 b1 b2 b3 M) ih  a0 a1 a2 a3 M9 hB h
            · have h := (if_neg hc).symm.trans h
              obtain ⟨hz, rfl⟩ := rN_some h
              exact hB
          · have h := (if_neg hc).symm.trans h
            obtain ⟨hz, rfl⟩ := rN_some h
            exact hB
theorem dX16_damage (fu : Nat) {dn : Nat} {out : Int32 × Mm}   (a0 : Nat) (a1 : Int32) (a2 : Int32)  (M : Mm) (hB : DP dn M) (h : fX16_damage fu  a0 a1 a2 M = some out) : DP dn out.2 := by
  unfold fX16_damage at h
  by_cases hc : a1 < 0
  · have h := (if_pos hc).symm.trans h
    obtain ⟨hz, rfl⟩ := rN_some h
    exact hB
  · have h := (if_neg hc).symm.trans h
    obtain ⟨v1, ev1, h⟩ := bd h
    by_cases hc : a1 < v1
    · have h := (if_pos hc).symm.trans h
      exact dX16_damage_L16 fu   fu a0 a1 a2 (0 : Int32) M hB h
    · have h := (if_neg hc).symm.trans h
      obtain ⟨hz, rfl⟩ := rN_some h
      exact hB
theorem dX16_strays (fu : Nat) {dn : Nat} {out : Int32 × Mm}   (a0 : Nat)  (M : Mm) (hB : DP dn M) (h : fX16_strays fu  a0 M = some out) : DP dn out.2 := by
  unfold fX16_strays at h
  obtain ⟨v1, ev1, h⟩ := bd h
  obtain rfl := Option.some.inj h
  exact hB
