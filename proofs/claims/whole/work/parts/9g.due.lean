/-! ===== part 9g: when things are due ===== -/
/-- never, as the reference has it, and as the class has it -/
def MX : Nat := 9223372036854775807
def NV : Nat := 2147483647
theorem lgc {a b : Nat} (ha : a < 2 ^ 63) (hb : b < 2 ^ 63) : (lg_cmp (lN a) (lN b) < 0 ↔ a < b) ∧ (lg_cmp (lN a) (lN b) = 0 ↔ a = b) ∧ (0 ≤ lg_cmp (lN a) (lN b) ↔ b ≤ a) ∧ (0 < lg_cmp (lN a) (lN b) ↔ b < a) := by
  have L : ∀ {x y : Nat}, x < 2 ^ 63 → y < 2 ^ 63 → ((lN x : Int64) < lN y ↔ x < y) := fun {x y} hx hy => by
    rw [Int64.lt_iff_toInt_lt, lN_ti (by omega), lN_ti (by omega), if_pos hx, if_pos hy]; omega
  have E : lN a = lN b ↔ a = b := ⟨fun q => by
    have := congrArg Int64.toInt q
    rw [lN_ti (by omega), lN_ti (by omega), if_pos ha, if_pos hb] at this
    omega, fun q => by rw [q]⟩
  unfold lg_cmp
  by_cases h1 : b < a
  · rw [if_pos ((L hb ha).mpr h1)]
    exact ⟨⟨fun q => absurd q (by decide), fun q => by omega⟩, ⟨fun q => absurd q (by decide), fun q => by omega⟩, ⟨fun _ => by omega, fun _ => by decide⟩, ⟨fun _ => h1, fun _ => by decide⟩⟩
  · rw [if_neg (fun q => h1 ((L hb ha).mp q))]
    by_cases h2 : a = b
    · rw [if_pos (E.mpr h2)]
      exact ⟨⟨fun q => absurd q (by decide), fun q => by omega⟩, ⟨fun _ => h2, fun _ => by decide⟩, ⟨fun _ => by omega, fun _ => by decide⟩, ⟨fun q => absurd q (by decide), fun q => by omega⟩⟩
    · rw [if_neg (fun q => h2 (E.mp q))]
      exact ⟨⟨fun _ => by omega, fun _ => by decide⟩, ⟨fun q => absurd q (by decide), fun q => by omega⟩, ⟨fun q => absurd q (by decide), fun q => by omega⟩, ⟨fun q => absurd q (by decide), fun q => by omega⟩⟩
/-- when a packet, a datagram, a timer, a life is due -/
def pD (A : Mm) (k : Nat) : Nat := if (mF A 960 (422 + 2 * k)) = 0 then MX else ((mF A 963 (422 + 2 * k))).toNatClampNeg + 1000 * ((mF A 964 (422 + 2 * k))).toNatClampNeg
def dD (A : Mm) (k : Nat) : Nat := if (mF A 832 (438 + 3 * k)) = 0 then MX else ((mF A 837 (438 + 3 * k))).toNatClampNeg + 15000
def tD (A : Mm) (k : Nat) : Nat := if (mF A 768 (342 + 4 * k)) = 0 then MX else if (mF A 789 (342 + 4 * k)) = 0 then MX else ((mF A 790 (342 + 4 * k))).toNatClampNeg
def lD (A : Mm) (k : Nat) : Nat := if (mF A 768 (342 + 4 * k)) = 4 ∨ (mF A 768 (342 + 4 * k)) = 6 then ((mF A 813 (342 + 4 * k))).toNatClampNeg + 60000 else if (mF A 768 (342 + 4 * k)) = 2 ∧ (mF A 798 (342 + 4 * k)) = 0 ∧ (mF A 772 (342 + 4 * k)) = (mF A 774 (342 + 4 * k)) ∧ (mF A 773 (342 + 4 * k)) = (mF A 797 (342 + 4 * k)) + (mF A 794 (342 + 4 * k)) + (mF A 796 (342 + 4 * k)) then ((mF A 812 (342 + 4 * k))).toNatClampNeg + 30000 else MX
section Due
variable {A M A' M' : Mm} {KN KS t T im ig F ek ty nw : Nat}
theorem JW_of (h : JL0 KN KS t T A M) (hn : (mF A 1034 323) = nI nw) (h2 : nw ≤ 2000000000) : ∃ n O s o, (O ≤ T + t ∧ t ≤ 1000) ∧ JWa n O nw s o A M := by
  obtain ⟨-, -, -, -, -, -, -, n, O, nw', s, o, hO, hJ⟩ := h
  have b := hJ.1.2
  have e : nw' = nw := (nI_eq (by omega) (by omega)).mp (hJ.2.2.2.1.symm.trans hn)
  subst e
  exact ⟨n, O, s, o, hO, hJ⟩
theorem JD_of (h : JD A M) (hn : (mF A 1034 323) = nI nw) (h2 : nw ≤ 2000000000) : ∃ n s τ, JDa n nw s τ A M := by
  obtain ⟨n, nw', s, τ, hJ⟩ := h
  have b := hJ.1.2
  have e : nw' = nw := (nI_eq (by omega) (by omega)).mp (hJ.2.2.1.symm.trans hn)
  subst e
  exact ⟨n, s, τ, hJ⟩
theorem pd_at {n O : Nat} {s o : Nat → Nat} (hJ : JWa n O nw s o A M) {i q : Nat} (hi : i < n) (hq : mB M 313 i = some q) : ∃ τ as, (mF A 963 (422 + 2 * (s i))) = nI τ ∧ (mF M 386 q) = nI τ ∧ (mF A 964 (422 + 2 * (s i))) = nI as ∧ (mF M 388 q) = nI as ∧ 1 ≤ as ∧ as ≤ 3 ∧ τ ≤ nw ∧ nw ≤ τ + 1000 * as ∧ pD A (s i) = τ + 1000 * as := by
  obtain ⟨⟨a0, a1⟩, a2, a3, a4, a5, a6, a7, a8, a9, -⟩ := hJ
  obtain ⟨q', w1, -, ln, τ, as, -, -, -, -, -, w7, w8, w9, w10, w11, w12, w13, w14⟩ := a9 i hi
  rw [hq] at w1
  have e := Option.some.inj w1
  subst e
  refine ⟨τ, as, w7, w8, w9, w10, w11, w12, w13, w14, ?_⟩
  unfold pD
  rw [if_neg (by rw [a7 i hi]; decide), w7, w9, clampN (by omega), clampN (by omega)]
theorem pd_no {n O : Nat} {s o : Nat → Nat} (hJ : JWa n O nw s o A M) {k : Nat} (hk : k < 8) : ((mF A 960 (422 + 2 * k)) = 0 ∧ pD A k = MX) ∨ ∃ i q, i < n ∧ s i = k ∧ mB M 313 i = some q := by
  obtain ⟨-, -, -, -, a5, a6, a7, a8, a9, -⟩ := hJ
  by_cases z : ∃ i, i < n ∧ s i = k
  · obtain ⟨i, z1, z2⟩ := z
    obtain ⟨q, w1, -⟩ := a9 i z1
    exact Or.inr ⟨i, q, z1, z2, w1⟩
  · have u := a8 k hk (fun i hi e => z ⟨i, hi, e⟩)
    exact Or.inl ⟨u, by unfold pD; rw [if_pos u]⟩
theorem dd_at {n : Nat} {s τ : Nat → Nat} (hJ : JDa n nw s τ A M) {i d : Nat} (hi : i < n) (hd : mB M 316 i = some d) : (mF A 837 (438 + 3 * (s i))) = nI (τ i) ∧ (mF M 132 d) = nI (τ i) ∧ τ i ≤ nw ∧ nw ≤ τ i + 15000 ∧ dD A (s i) = τ i + 15000 := by
  obtain ⟨⟨a0, a1⟩, a2, a3, a4, a5, a6, a7, a8, -⟩ := hJ
  obtain ⟨d', w1, -, -, -, -, w6, w7, w8, w9, -⟩ := a8 i hi
  rw [hd] at w1
  have e := Option.some.inj w1
  subst e
  refine ⟨w6, w7, w8, w9, ?_⟩
  unfold dD
  rw [if_neg (by rw [a6 i hi]; decide), w6, clampN (by omega)]
theorem dd_no {n : Nat} {s τ : Nat → Nat} (hJ : JDa n nw s τ A M) {k : Nat} (hk : k < 4) : ((mF A 832 (438 + 3 * k)) = 0 ∧ dD A k = MX) ∨ ∃ i d, i < n ∧ s i = k ∧ mB M 316 i = some d := by
  obtain ⟨-, -, -, a4, a5, a6, a7, a8, -⟩ := hJ
  by_cases z : ∃ i, i < n ∧ s i = k
  · obtain ⟨i, z1, z2⟩ := z
    obtain ⟨d, w1, -⟩ := a8 i z1
    exact Or.inr ⟨i, d, z1, z2, w1⟩
  · have u := a7 k hk (fun i hi e => z ⟨i, hi, e⟩)
    exact Or.inl ⟨u, by unfold dD; rw [if_pos u]⟩
/-- the timer of a connection -/
theorem td_at {k c hd ft : Nat} {b0 : Int32} {v : Nat → Nat} (h : TK A M KN KS t T im ig k c nw hd ft b0 v) : ((mF A 789 (342 + 4 * k)) = 0 ∧ (v 14) = 0 ∧ (mF M 324 (c + 5)) = 2147483647 ∧ tD A k = MX) ∨ ((mF A 789 (342 + 4 * k)) = 1 ∧ (v 14) = 1 ∧ (mF A 790 (342 + 4 * k)) = nI (v 15) ∧ (mF M 324 (c + 5)) = nI (v 15) ∧ tD A k = (v 15) ∧ nw ≤ (v 15) ∧ (v 15) ≤ nw + 60000) := by
  have hI := h.ci
  have n2 := h.n2
  have on1 := hI.on1
  have st1 := h.cs.st1
  have nz : ¬ (mF A 768 (342 + 4 * k)) = 0 := by
    rw [h.cs.st]
    intro z
    have := (nI_eq (a := (v 0)) (b := 0) (by omega) (by decide)).mp z
    omega
  have e : (mF A 789 (342 + 4 * k)) = nI (v 14) := hI.on
  unfold tD
  rw [if_neg nz]
  rcases h.cp.tm with ⟨q1, q2⟩ | ⟨q1, q2⟩
  · rw [if_pos q1]
    exact Or.inl ⟨q1, (nI_eq (b := 0) (by omega) (by decide)).mp (e.symm.trans q1), q2, rfl⟩
  · have o1 : (v 14) = 1 := (nI_eq (b := 1) (by omega) (by decide)).mp (e.symm.trans q1)
    obtain ⟨z1, z2, z3, -⟩ := hI.tm o1
    rw [if_neg (by rw [q1]; decide), z1, clampN (by omega)]
    exact Or.inr ⟨q1, o1, rfl, q2.symm.trans z1, rfl, z2, z3⟩
/-- the life of a connection -/
theorem ld_at {k c hd ft : Nat} {b0 : Int32} {v : Nat → Nat} (h : TK A M KN KS t T im ig k c nw hd ft b0 v) : (((v 0) = 4 ∨ (v 0) = 6) ∧ lD A k = (v 23) + 60000 ∧ (mF A 813 (342 + 4 * k)) = nI (v 23) ∧ (v 23) ≤ nw ∧ nw ≤ (v 23) + 60000) ∨ ((v 0) = 2 ∧ (v 7) = 0 ∧ (v 1) = (v 3) ∧ (v 2) = 1 + (v 4) + (v 5) ∧ lD A k = (v 22) + 30000 ∧ (mF A 812 (342 + 4 * k)) = nI (v 22) ∧ (v 22) ≤ nw ∧ nw ≤ (v 22) + 30000) ∨ ((v 0) ≠ 4 ∧ (v 0) ≠ 6 ∧ ¬ ((v 0) = 2 ∧ (v 7) = 0 ∧ (v 1) = (v 3) ∧ (v 2) = 1 + (v 4) + (v 5)) ∧ lD A k = MX) := by
  have hI := h.ci
  have n2 := h.n2
  have hS := h.cs
  have st1 := hS.st1
  have cl1 := hI.cl1
  have m1 := hI.mL
  have h1 := hI.hl1
  have h2 := hI.bl1
  have ua := hI.ua
  have am := hI.am
  have s : ∀ x, x < 10 → ((mF A 768 (342 + 4 * k)) = nI x ↔ (v 0) = x) := fun x hx => by rw [hS.st]; exact nI_eq (by omega) (by omega)
  have s2 : (mF A 768 (342 + 4 * k)) = (2 : Int32) ↔ (v 0) = 2 := s 2 (by decide)
  have s4 : (mF A 768 (342 + 4 * k)) = (4 : Int32) ↔ (v 0) = 4 := s 4 (by decide)
  have s6 : (mF A 768 (342 + 4 * k)) = (6 : Int32) ↔ (v 0) = 6 := s 6 (by decide)
  have c0 : (mF A 798 (342 + 4 * k)) = 0 ↔ (v 7) = 0 := by rw [hI.cl]; exact nI_eq (b := 0) (by omega) (by decide)
  have um : (mF A 772 (342 + 4 * k)) = (mF A 774 (342 + 4 * k)) ↔ (v 1) = (v 3) := by rw [hI.una, hI.max]; exact ⟨fun e => b0_inj (by omega) (by omega) e, fun e => by rw [e]⟩
  unfold lD
  by_cases q : (v 0) = 4 ∨ (v 0) = 6
  · obtain ⟨z1, z2, z3⟩ := hS.si q
    rw [if_pos (q.imp s4.mpr s6.mpr), z1, clampN (by omega)]
    exact Or.inl ⟨q, rfl, rfl, z2, z3⟩
  · rw [if_neg (fun z => q (z.imp s4.mp s6.mp))]
    by_cases q2 : (v 0) = 2 ∧ (v 7) = 0 ∧ (v 1) = (v 3) ∧ (v 2) = 1 + (v 4) + (v 5)
    · obtain ⟨y1, y2, y3, y4⟩ := q2
      obtain ⟨z1, z2, z3⟩ := hS.la (by omega)
      rw [if_pos ⟨s2.mpr y1, c0.mpr y2, um.mpr y3, (CI_end hI).mpr y4⟩, z1, clampN (by omega)]
      exact Or.inr (Or.inl ⟨y1, y2, y3, y4, rfl, rfl, z2, z3 y1 y2 y3 y4⟩)
    · rw [if_neg (fun z => q2 ⟨s2.mp z.1, c0.mp z.2.1, um.mp z.2.2.1, (CI_end hI).mp z.2.2.2⟩)]
      exact Or.inr (Or.inr ⟨by omega, by omega, q2, rfl⟩)
theorem dead_at {k : Nat} (h : (mF A 768 (342 + 4 * k)) = 0) : tD A k = MX ∧ lD A k = MX := by
  unfold tD lD
  rw [if_pos h, h, if_neg (by decide), if_neg (fun z => absurd z.1 (by decide))]
  exact ⟨rfl, rfl⟩
/-- the reference asks when a life ends -/
theorem m_life (fu : Nat) {k c hd ft : Nat} {b0 : Int32} {v : Nat → Nat} (hk : k < 16) (h : TK A M KN KS t T im ig k c nw hd ft b0 v) : fX16_life fu (some (342 + 4 * k)) A = some (lN (lD A k), A) := by
  have hI := h.ci
  have n2 := h.n2
  have hS := h.cs
  have st1 := hS.st1
  have cl1 := hI.cl1
  have m1 := hI.mL
  have h1 := hI.hl1
  have h2 := hI.bl1
  have ua := hI.ua
  have am := hI.am
  have hA := rw_cnO h.rw' k hk
  have s : ∀ x, x < 10 → ((mF A 768 (342 + 4 * k)) = nI x ↔ (v 0) = x) := fun x hx => by rw [hS.st]; exact nI_eq (by omega) (by omega)
  have s2 : (mF A 768 (342 + 4 * k)) = (2 : Int32) ↔ (v 0) = 2 := s 2 (by decide)
  have s4 : (mF A 768 (342 + 4 * k)) = (4 : Int32) ↔ (v 0) = 4 := s 4 (by decide)
  have s6 : (mF A 768 (342 + 4 * k)) = (6 : Int32) ↔ (v 0) = 6 := s 6 (by decide)
  have c0 : (mF A 798 (342 + 4 * k)) = 0 ↔ (v 7) = 0 := by rw [hI.cl]; exact nI_eq (b := 0) (by omega) (by decide)
  have um : (mF A 772 (342 + 4 * k)) = (mF A 774 (342 + 4 * k)) ↔ (v 1) = (v 3) := by rw [hI.una, hI.max]; exact ⟨fun e => b0_inj (by omega) (by omega) e, fun e => by rw [e]⟩
  have lf : nI (lfN v) = (0 : Int32) ↔ lfN v = 0 := nI_eq (b := 0) (by unfold lfN; omega) (by decide)
  unfold fX16_life fX16_life_L17
  rw [gI_ok hA, ob_some]
  by_cases q6 : (v 0) = 6
  · rw [if_pos (s6.mpr q6), gI_ok hA, ob_some]
    rcases ld_at h with ⟨-, e, z, z1, z2⟩ | z | z
    · rw [e, z, nI_l (by omega), show (60000 : Int64) = lN 60000 from rfl, lN_add]
    · omega
    · omega
  · rw [if_neg (fun z => q6 (s6.mp z)), ob_some]
    by_cases q4 : (v 0) = 4
    · rw [if_pos (s4.mpr q4), gI_ok hA, ob_some]
      rcases ld_at h with ⟨-, e, z, z1, z2⟩ | z | z
      · rw [e, z, nI_l (by omega), show (60000 : Int64) = lN 60000 from rfl, lN_add]
      · omega
      · omega
    · rw [if_neg (fun z => q4 (s4.mp z))]
      have no : ¬ ((v 0) = 2 ∧ (v 7) = 0 ∧ (v 1) = (v 3) ∧ (v 2) = 1 + (v 4) + (v 5)) → lD A k = MX := fun z => by
        rcases ld_at h with y | y | y
        · omega
        · exact absurd ⟨y.1, y.2.1, y.2.2.1, y.2.2.2.1⟩ z
        · exact y.2.2.2
      unfold fX16_isIdle
      rw [gI_ok hA, ob_some]
      by_cases q2 : (v 0) = 2
      · rw [if_pos (s2.mpr q2), gI_ok hA, ob_some]
        by_cases qc : (v 7) = 0
        · rw [if_pos (c0.mpr qc), gI_ok hA, ob_some, gI_ok hA, ob_some]
          by_cases qu : (v 1) = (v 3)
          · rw [if_pos (um.mpr qu), gI_ok hA, ob_some, rc_ok hA, ob_some, m_left fu h.rw' hk hI, b2_some]
            by_cases ql : lfN v = 0
            · rw [if_pos (lf.mpr ql), rN1, b2_some, if_neg (by decide), gI_ok hA, ob_some]
              rcases ld_at h with y | ⟨-, -, -, -, e, z, z1, z2⟩ | y
              · omega
              · rw [e, z, nI_l (by omega), show (30000 : Int64) = lN 30000 from rfl, lN_add]
              · exact absurd ⟨q2, qc, qu, by unfold lfN at ql; omega⟩ y.2.2.1
            · rw [if_neg (fun z => ql (lf.mp z)), rN0, b2_some, if_pos rfl, no (fun z => ql (by unfold lfN; omega))]
              rfl
          · rw [if_neg (fun z => qu (um.mp z)), rN0, b2_some, if_pos rfl, no (fun z => qu z.2.2.1)]
            rfl
        · rw [if_neg (fun z => qc (c0.mp z)), rN0, b2_some, if_pos rfl, no (fun z => qc z.2.1)]
          rfl
      · rw [if_neg (fun z => q2 (s2.mp z)), rN0, b2_some, if_pos rfl, no (fun z => q2 z.1)]
        rfl
/-- the class asks when a life ends -/
theorem x_life (fu : Nat) {k c hd ft : Nat} {b0 : Int32} {v : Nat → Nat} (h : TK A M KN KS t T im ig k c nw hd ft b0 v) : fX1_lifeDue fu c M = some (nI (min NV (lD A k)), M) := by
  have hI := h.ci
  have n2 := h.n2
  have hS := h.cs
  have st1 := hS.st1
  have cl1 := hI.cl1
  have m1 := hI.mL
  have h1 := hI.hl1
  have h2 := hI.bl1
  have ua := hI.ua
  have am := hI.am
  have c1 := h.cn.1
  have s : ∀ x, x < 10 → ((mF M 64 c) = nI x ↔ (v 0) = x) := fun x hx => by rw [← h.ce.st, hS.st]; exact nI_eq (by omega) (by omega)
  have s2 : (mF M 64 c) = (2 : Int32) ↔ (v 0) = 2 := s 2 (by decide)
  have s4 : (mF M 64 c) = (4 : Int32) ↔ (v 0) = 4 := s 4 (by decide)
  have s6 : (mF M 64 c) = (6 : Int32) ↔ (v 0) = 6 := s 6 (by decide)
  have um : (mF M 68 c) = (mF M 70 c) ↔ (v 1) = (v 3) := by rw [← h.ce.una, ← h.ce.max, hI.una, hI.max]; exact ⟨fun e => b0_inj (by omega) (by omega) e, fun e => by rw [e]⟩
  have li : (v 0) = 4 ∨ (v 0) = 6 → (mF M 72 c) = nI ((v 23) + 60000) := fun z => by
    rw [h.ce.li (z.imp (fun y => by rw [hS.st, y]; rfl) (fun y => by rw [hS.st, y]; rfl)), (hS.si z).1, show (60000 : Int32) = nI 60000 from rfl, nI_add]
  have i2 : 0 < nI (lfN v) ↔ ¬ lfN v = 0 := by
    have : lfN v < 2 ^ 31 := by unfold lfN; omega
    constructor
    · intro z y
      rw [y] at z
      exact absurd z (by decide)
    · intro z
      exact nI_lt (a := 0) (by omega) this
  have no : (v 0) ≠ 4 → (v 0) ≠ 6 → ¬ ((v 0) = 2 ∧ (v 7) = 0 ∧ (v 1) = (v 3) ∧ (v 2) = 1 + (v 4) + (v 5)) → min NV (lD A k) = NV := fun z4 z6 z => by
    rcases ld_at h with y | y | y
    · omega
    · exact absurd ⟨y.1, y.2.1, y.2.2.1, y.2.2.2.1⟩ z
    · rw [y.2.2.2]; rfl
  unfold fX1_lifeDue
  rw [gI_ok c1, ob_some]
  by_cases q4 : (v 0) = 4
  · rw [if_pos (s4.mpr q4), gI_ok c1, ob_some, li (Or.inl q4)]
    rcases ld_at h with ⟨-, e, z, z1, z2⟩ | z | z
    · rw [e, Nat.min_eq_right (by unfold NV; omega)]
    · omega
    · omega
  · rw [if_neg (fun z => q4 (s4.mp z)), ob_some]
    by_cases q6 : (v 0) = 6
    · rw [if_pos (s6.mpr q6), gI_ok c1, ob_some, li (Or.inr q6)]
      rcases ld_at h with ⟨-, e, z, z1, z2⟩ | z | z
      · rw [e, Nat.min_eq_right (by unfold NV; omega)]
      · omega
      · omega
    · rw [if_neg (fun z => q6 (s6.mp z)), ob_some]
      by_cases q2 : (v 0) = 2
      · rw [if_pos (s2.mpr q2), rc_ok c1, ob_some]
        unfold fX1_isBusy
        rw [rc_ok c1, ob_some, x_left fu c1 h.ce hI, b2_some]
        by_cases ql : lfN v = 0
        · have f0 := hS.s27 (Or.inl q2)
          have fnI := hI.fnI
          have qc : (v 7) = 0 ∧ (v 2) = 1 + (v 4) + (v 5) := by unfold lfN at ql; omega
          rw [if_neg (fun z => (i2.mp z) ql), gI_ok c1, ob_some, gI_ok c1, ob_some]
          by_cases qu : (v 1) = (v 3)
          · rw [if_pos (um.mpr qu), rN0, b2_some, if_pos rfl, gI_ok c1, ob_some]
            rcases ld_at h with y | ⟨-, -, -, -, e, z, z1, z2⟩ | y
            · omega
            · rw [e, Nat.min_eq_right (by unfold NV; omega), ← h.ce.la (by rw [hS.st, q2]; decide), z, show (30000 : Int32) = nI 30000 from rfl, nI_add]
            · exact absurd ⟨q2, qc.1, qu, qc.2⟩ y.2.2.1
          · rw [if_neg (fun z => qu (um.mp z)), rN1, b2_some, if_neg (by decide), no q4 q6 (fun z => qu z.2.2.1)]
            rfl
        · rw [if_pos (i2.mpr ql), rN1, b2_some, if_neg (by decide), no q4 q6 (fun z => ql (by unfold lfN; omega))]
          rfl
      · rw [if_neg (fun z => q2 (s2.mp z)), no q4 q6 (fun z => q2 z.1)]
        rfl
end Due
