/-! ===== part 9i: connections that are due; the class looks for what is due first ===== -/
section Scan2
variable {A M : Mm} {KN KS t T im ig F ek ty nw : Nat} {a5 a6 : Int32}
theorem JJ.live (h : JJ A M KN KS t T im ig F ek ty nw) {k : Nat} (hk : k < 16) : (mF A 768 (342 + 4 * k)) = 0 ∨ ∃ c hd ft b0 v, mB M 318 k = some c ∧ (mF A 768 (342 + 4 * k)) ≠ 0 ∧ TK A M KN KS t T im ig k c nw hd ft b0 v := by
  by_cases z : (mF A 768 (342 + 4 * k)) = 0
  · exact Or.inl z
  · rcases h.cc k hk with ⟨e1, e2⟩ | ⟨c, e1, e2, e3⟩
    · exact absurd e2 z
    · obtain ⟨hd, ft, b0, v, tk⟩ := h.tk hk e1 z
      exact Or.inr ⟨c, hd, ft, b0, v, e1, z, tk⟩
theorem ld_le {k c hd ft : Nat} {b0 : Int32} {v : Nat → Nat} (h : TK A M KN KS t T im ig k c nw hd ft b0 v) : (lD A k < NV ∧ nw ≤ lD A k) ∨ lD A k = MX := by
  have n2 := h.n2
  unfold NV
  rcases ld_at h with ⟨-, e, -, z1, z2⟩ | ⟨-, -, -, -, e, -, z1, z2⟩ | z
  · omega
  · omega
  · exact Or.inr z.2.2.2
theorem td_le {k c hd ft : Nat} {b0 : Int32} {v : Nat → Nat} (h : TK A M KN KS t T im ig k c nw hd ft b0 v) : (tD A k < NV ∧ nw ≤ tD A k) ∨ tD A k = MX := by
  have n2 := h.n2
  unfold NV
  rcases td_at h with ⟨-, -, -, e⟩ | ⟨-, -, -, -, e, z1, z2⟩
  · exact Or.inr e
  · omega
theorem m_255 (fu : Nat) (k2 : Nat → Int32 → Int32 → Mm → Option (Mm)) (k195 : Nat → Int32 → Int64 → Int32 → Int32 → Int32 → Mm → Option (Mm)) (a1 : Int32) {k c hd ft e : Nat} {b0 : Int32} {v : Nat → Nat} (hk : k < 16) (h : TK A M KN KS t T im ig k c nw hd ft b0 v) (he : e < 2 ^ 63) (a5 a6 : Int32) :
    fX16_passTo_L255 fu k2 k195 323 a1 (lN e) a5 a6 (nI k) (some (342 + 4 * k)) A = if lD A k < e then k195 323 a1 (lN (lD A k)) 3 (nI k) (nI (k + 1)) A else k195 323 a1 (lN e) a5 a6 (nI (k + 1)) A := by
  have lm := m_life fu hk h
  have ll : lD A k < 2 ^ 63 := by have := ld_le h; unfold NV MX at this; omega
  obtain ⟨-, -, L3, -⟩ := lgc ll he
  unfold fX16_passTo_L255 fX16_passTo_L278
  rw [lm, b2_some]
  by_cases c : e ≤ lD A k
  · rw [if_pos (L3.mpr c), if_neg (by omega), nI_1]
  · rw [if_neg (fun z => c (L3.mp z)), if_pos (by omega), lm, b2_some, nI_1]
theorem m_stepC (fu m : Nat) (k2 : Nat → Int32 → Int32 → Mm → Option (Mm)) (a1 : Int32) (h : JJ A M KN KS t T im ig F ek ty nw) {j e : Nat} (hj : j < 16) (g : SCn A j e a5 a6) : ∃ e' a5' a6', SCn A (j + 1) e' a5' a6' ∧ fX16_passTo_L195 fu k2 (m + 1) 323 a1 (lN e) a5 a6 (nI j) A = fX16_passTo_L195 fu k2 m 323 a1 (lN e') a5' a6' (nI (j + 1)) A := by
  have er := g.rng
  have eN : e < 2 ^ 63 := by unfold NV MX at er; omega
  have hR := h.rw'
  obtain ⟨g1, g2, g3, g4⟩ := g
  have hA := rw_cnO hR j hj
  have o := rw_ok323 hR
  have keep : e ≤ tD A j → e ≤ lD A j → SCn A (j + 1) e a5 a6 := fun y1 y2 => by
    refine ⟨g1, g2, fun i hi => ?_, ?_⟩
    · by_cases z : i = j
      · rw [z]; exact ⟨y1, y2⟩
      · exact g3 i (by omega)
    · rcases g4 with z | ⟨k, z1, z⟩
      · exact Or.inl z
      · exact Or.inr ⟨k, by omega, z⟩
  have new : ∀ e' a5', e' < e → e' < NV → e' ≤ tD A j → e' ≤ lD A j → ((a5' = 2 ∧ e' = tD A j) ∨ (a5' = 3 ∧ e' = lD A j ∧ e' < tD A j)) → SCn A (j + 1) e' a5' (nI j) := fun e' a5' y1 y2 y3 y4 y5 => by
    refine ⟨fun i hi => ?_, fun i hi => ?_, fun i hi => ?_, Or.inr ⟨j, by omega, rfl, y2, fun i hi => ?_, fun i hi => ?_, fun i hi => ?_, y5⟩⟩
    · have := g1 i hi; omega
    · have := g2 i hi; omega
    · by_cases z : i = j
      · rw [z]; exact ⟨y3, y4⟩
      · have := g3 i (by omega); omega
    · have := g1 i hi; omega
    · have := g2 i hi; omega
    · have := g3 i hi; omega
  rw [fX16_passTo_L195, if_neg (show ¬ (16 : Int32) ≤ nI j from nI_ge (b := 16) hj (by decide)), gR_ok o, ob_some, rw_g1055_323 hR, gB_ok (rw_ok339 hR) (by rw [rw_ln339 hR]; omega) (by omega), ob_some, rw_cnB hR j hj, gI_ok hA, ob_some]
  rcases h.live hj with z | ⟨c, hd, ft, b0, v, hc, hs, tk⟩
  · obtain ⟨d1, d2⟩ := dead_at z
    rw [if_pos z]
    unfold fX16_passTo_L278
    rw [nI_1]
    exact ⟨e, a5, a6, keep (by rw [d1]; unfold NV MX at *; omega) (by rw [d2]; unfold NV MX at *; omega), rfl⟩
  · rw [if_neg hs, gI_ok hA, ob_some]
    have ll := ld_le tk
    have tl := td_le tk
    have fin : ∀ e1 b5 b6, e1 < 2 ^ 63 → (e1 ≤ lD A j → SCn A (j + 1) e1 b5 b6) → (lD A j < e1 → SCn A (j + 1) (lD A j) 3 (nI j)) → ∃ e' a5' a6', SCn A (j + 1) e' a5' a6' ∧ fX16_passTo_L255 fu k2 (fun b0 b1 b3 b5 b6 b7 M => fX16_passTo_L195 fu k2 m b0 b1 b3 b5 b6 b7 M) 323 a1 (lN e1) b5 b6 (nI j) (some (342 + 4 * j)) A = fX16_passTo_L195 fu k2 m 323 a1 (lN e') a5' a6' (nI (j + 1)) A := fun e1 b5 b6 y1 y2 y3 => by
      rw [m_255 fu k2 _ a1 hj tk y1]
      by_cases c : lD A j < e1
      · rw [if_pos c]; exact ⟨_, _, _, y3 c, rfl⟩
      · rw [if_neg c]; exact ⟨_, _, _, y2 (by omega), rfl⟩
    rcases td_at tk with ⟨t1, t2, t3, t4⟩ | ⟨t1, t2, t3, t4, t5, t6, t7⟩
    · rw [if_pos t1]
      exact fin e a5 a6 eN (fun y => keep (by rw [t4]; unfold NV MX at *; omega) y) (fun y => new _ _ y (by unfold NV MX at *; omega) (by rw [t4]; unfold NV MX at *; omega) (Nat.le_refl _) (Or.inr ⟨rfl, rfl, by rw [t4]; unfold NV MX at *; omega⟩))
    · have tn : tD A j < NV := by unfold NV MX at *; have := h.n2; omega
      have tn' : (v 15) < 2 ^ 63 := by have := h.n2; omega
      obtain ⟨-, -, L3, -⟩ := lgc tn' eN
      rw [if_neg (by rw [t1]; decide), gI_ok hA, ob_some, t3, nI_l (by have := h.n2; omega)]
      by_cases c : e ≤ (v 15)
      · rw [if_pos (L3.mpr c)]
        exact fin e a5 a6 eN (fun y => keep (by omega) y) (fun y => new _ _ y (by unfold NV MX at *; omega) (by omega) (Nat.le_refl _) (Or.inr ⟨rfl, rfl, by omega⟩))
      · rw [if_neg (fun z => c (L3.mp z)), ob_some, nI_l (by have := h.n2; omega)]
        refine fin (v 15) 2 (nI j) tn' (fun y => ?_) (fun y => new _ _ (by omega) (by unfold NV MX at *; omega) (by omega) (Nat.le_refl _) (Or.inr ⟨rfl, rfl, by omega⟩))
        have := new (tD A j) 2 (by omega) tn (Nat.le_refl _) (by omega) (Or.inl ⟨rfl, rfl⟩)
        rw [t5] at this
        exact this
theorem m_scanC (fu : Nat) (k2 : Nat → Int32 → Int32 → Mm → Option (Mm)) {tm : Nat} (htm : tm ≤ 2000000000) (h : JJ A M KN KS t T im ig F ek ty nw) : ∀ (d j m e : Nat) (a5 a6 : Int32), j + d = 16 → d ≤ m → SCn A j e a5 a6 → ∃ e' a5' a6', SCn A 16 e' a5' a6' ∧ fX16_passTo_L195 fu k2 (m + 1) 323 (nI tm) (lN e) a5 a6 (nI j) A = fX16_passTo_L296 fu k2 323 (nI tm) (lN e') a5' a6' (if tm < e' then 0 else 1) A := by
  intro d
  induction d with
  | zero =>
    intro j m e a5 a6 h1 _ g
    have : j = 16 := by omega
    subst this
    refine ⟨e, a5, a6, g, ?_⟩
    have er := g.rng
    have eN : e < 2 ^ 63 := by unfold NV MX at er; omega
    obtain ⟨-, -, -, L4⟩ := lgc (b := tm) eN (by omega)
    rw [fX16_passTo_L195, if_pos (show (16 : Int32) ≤ nI 16 by decide), nI_l (by omega)]
    by_cases c : tm < e
    · rw [if_pos (L4.mpr c), if_pos c]
    · rw [if_neg (fun z => c (L4.mp z)), if_neg c]
  | succ d ih =>
    intro j m e a5 a6 h1 h2 g
    obtain ⟨e1, b5, b6, g1, g2⟩ := m_stepC fu m k2 (nI tm) h (by omega) g
    obtain ⟨e2, c5, c6, g3, g4⟩ := ih (j + 1) (m - 1) e1 b5 b6 (by omega) (by omega) g1
    rw [show m - 1 + 1 = m by omega] at g4
    exact ⟨e2, c5, c6, g3, g2.trans g4⟩
/-- the reference finds what is due first -/
theorem m_scan (fu : Nat) (hfu : 100 ≤ fu) (k2 : Nat → Int32 → Int32 → Mm → Option (Mm)) {tm : Nat} (htm : tm ≤ 2000000000) (h : JJ A M KN KS t T im ig F ek ty nw) : ∃ e a5 a6, SCn A 16 e a5 a6 ∧ fX16_passTo_L19 fu k2 fu 323 (nI tm) (9223372036854775807 : Int64) (-1 : Int32) 0 0 A = fX16_passTo_L296 fu k2 323 (nI tm) (lN e) a5 a6 (if tm < e then 0 else 1) A := by
  have hR := h.rw'
  obtain ⟨n, O, s, o, hO, hJ⟩ := JW_of h.jl h.nw h.n2
  obtain ⟨n', s', τ, hD⟩ := JD_of h.jd h.nw h.n2
  have ef : fu = fu - 1 + 1 := by omega
  obtain ⟨e1, b5, b6, p1, p2⟩ := m_scanP fu k2 (nI tm) hR hJ 8 0 (fu - 1) MX (-1) 0 (by decide) (by omega) ⟨fun i hi => by omega, Or.inl ⟨rfl, rfl, rfl⟩⟩
  have n1 : b5 ≠ 1 := by
    rcases p1.2 with z | ⟨k, -, -, -, z, -⟩
    · rw [z.2.1]; decide
    · rw [z]; decide
  obtain ⟨e2, c5, c6, q1, q2⟩ := m_scanD fu k2 (nI tm) hR hD 4 0 (fu - 1) e1 b5 b6 (by decide) (by omega) ⟨p1.1, fun i hi => by omega, Or.inl ⟨n1, p1⟩⟩
  obtain ⟨e3, d5, d6, r1, r2⟩ := m_scanC fu k2 htm h 16 0 (fu - 1) e2 c5 c6 (by decide) (by omega) ⟨q1.1, q1.2.1, fun i hi => by omega, Or.inl q1⟩
  rw [← ef] at p2 q2 r2
  exact ⟨e3, d5, d6, r1, p2.trans (q2.trans r2)⟩
/-- when a packet of the class is due -/
theorem x_dueOf (fu : Nat) {n O : Nat} {s o : Nat → Nat} (hJ : JWa n O nw s o A M) {i q : Nat} (hi : i < n) (hq : mB M 313 i = some q) (hO : okA M 6 q) : fX4_dueOf fu (some q) M = some (nI (pD A (s i)), M) := by
  obtain ⟨τ, as, w1, w2, w3, w4, w5, w6, w7, w8, w9⟩ := pd_at hJ hi hq
  unfold fX4_dueOf
  rw [if_neg (by simp), gI_ok hO, ob_some, gI_ok hO, ob_some, w2, w4, w9, show nI as * (1000 : Int32) = nI (as * 1000) from pk_mul as 1000, nI_add, Nat.mul_comm as 1000]
theorem x_earlP (fu : Nat) (hfu : 100 ≤ fu) (hW : XW M) {n O : Nat} {s o : Nat → Nat} (hJ : JWa n O nw s o A M) (hr : ∀ i q, mB M 313 i = some q → okA M 6 q) : ∃ e, fX4_earliest fu 307 M = some (nI e, M) ∧ e ≤ NV ∧ (∀ k, k < 8 → e ≤ pD A k) ∧ (e = NV ∨ ∃ k, k < 8 ∧ e = pD A k) := by
  have n8 := hJ.1.1
  have b := hJ.1.2
  have o := xw_ok307 hW
  have L : ∀ (d j m e : Nat), j + d = n → d ≤ m → e ≤ NV → (∀ i, i < j → e ≤ pD A (s i)) → (e = NV ∨ ∃ k, k < 8 ∧ e = pD A k) → ∃ e', fX4_earliest_L5 fu (m + 1) 307 (nI e) (nI j) M = some (nI e', M) ∧ e' ≤ NV ∧ (∀ i, i < n → e' ≤ pD A (s i)) ∧ (e' = NV ∨ ∃ k, k < 8 ∧ e' = pD A k) := by
    intro d
    induction d with
    | zero =>
      intro j m e h1 _ h3 h4 h5
      have : j = n := by omega
      subst this
      exact ⟨e, by rw [fX4_earliest_L5, gI_ok o, ob_some, hJ.2.1, if_pos (Int32.le_refl _)], h3, h4, h5⟩
    | succ d ih =>
      intro j m e h1 h2 h3 h4 h5
      have hj : j < n := by omega
      obtain ⟨q, hq, -⟩ := hJ.2.2.2.2.2.2.2.2.1 j hj
      obtain ⟨τ, as, w1, w2, w3, w4, w5, w6, w7, w8, w9⟩ := pd_at hJ hj hq
      have pN : pD A (s j) < 2 ^ 31 := by rw [w9]; omega
      have pV : pD A (s j) ≤ NV := by unfold NV; rw [w9]; omega
      rw [fX4_earliest_L5, gI_ok o, ob_some, hJ.2.1, if_neg (show ¬ nI n ≤ nI j from nI_ge (by omega) (by omega)), if_neg (show ¬ (8 : Int32) ≤ nI j from nI_ge (b := 8) (by omega) (by omega)), gR_ok o, ob_some, xw_g270_307 hW, gB_ok (xw_ok313 hW) (by rw [xw_ln313 hW]; omega) (by omega), ob_some, hq, x_dueOf fu hJ hj hq (hr j q hq), b2_some, jmin_nI (by unfold NV at h3; omega) pN, nI_1, show m = m - 1 + 1 by omega]
      refine ih (j + 1) (m - 1) (min e (pD A (s j))) (by omega) (by omega) (by omega) (fun i hi => ?_) ?_
      · by_cases z : i = j
        · rw [z]; omega
        · have := h4 i (by omega); omega
      · by_cases z : e ≤ pD A (s j)
        · rw [Nat.min_eq_left z]; exact h5
        · rw [Nat.min_eq_right (by omega)]; exact Or.inr ⟨s j, hJ.2.2.2.2.1 j hj, rfl⟩
  obtain ⟨e, r1, r2, r3, r4⟩ := L n 0 (fu - 1) NV (by omega) (by omega) (Nat.le_refl _) (fun i hi => by omega) (Or.inl rfl)
  rw [show fu - 1 + 1 = fu by omega] at r1
  refine ⟨e, r1, r2, fun k hk => ?_, r4⟩
  rcases pd_no hJ hk with ⟨-, z⟩ | ⟨i, q, z1, z2, -⟩
  · rw [z]; unfold NV MX at *; omega
  · rw [← z2]; exact r3 i z1
theorem x_earlD (fu : Nat) (hW : XW M) {n : Nat} {s τ : Nat → Nat} (hJ : JDa n nw s τ A M) (hr : ∀ i q, mB M 316 i = some q → okA M 2 q) : ∃ e, fX3_earliest fu 314 M = some (nI e, M) ∧ e ≤ NV ∧ (∀ k, k < 4 → e ≤ dD A k) ∧ ((e = NV ∧ n = 0) ∨ (0 < n ∧ e < NV ∧ e = dD A (s 0))) := by
  have n4 := hJ.1.1
  have b := hJ.1.2
  have o := xw_ok314 hW
  unfold fX3_earliest
  rw [gR_ok o, ob_some, xw_g207_314 hW, show (0 : Int32) = nI 0 from rfl, gB_ok (xw_ok316 hW) (by rw [xw_ln316 hW]; omega) (by omega), ob_some, gI_ok o, ob_some, hJ.2.1]
  by_cases c : n = 0
  · subst c
    rw [if_pos rfl]
    refine ⟨NV, rfl, Nat.le_refl _, fun k hk => ?_, Or.inl ⟨rfl, rfl⟩⟩
    rcases dd_no hJ hk with ⟨-, z⟩ | ⟨i, q, z1, -⟩
    · rw [z]; decide
    · omega
  · obtain ⟨d, hd, -⟩ := hJ.2.2.2.2.2.2.2.1 0 (by omega)
    obtain ⟨w1, w2, w7, w8, w9⟩ := dd_at hJ (by omega) hd
    rw [if_neg (fun z => c ((nI_eq (b := 0) (by omega) (by decide)).mp z)), hd, if_neg (by simp), gI_ok (hr 0 d hd), ob_some, w2, show (15000 : Int32) = nI 15000 from rfl, nI_add]
    refine ⟨τ 0 + 15000, rfl, by unfold NV; omega, fun k hk => ?_, Or.inr ⟨by omega, by unfold NV; omega, w9.symm⟩⟩
    rcases dd_no hJ hk with ⟨-, z⟩ | ⟨i, q, z1, z2, z3⟩
    · rw [z]; unfold MX; omega
    · obtain ⟨-, -, -, -, v9⟩ := dd_at hJ z1 z3
      rw [← z2, v9]
      by_cases y : i = 0
      · rw [y]; exact Nat.le_refl _
      · have := (hJ.2.2.2.2.2.2.2.2.1 0 i (by omega) z1).2
        omega
/-- the connection at a place -/
theorem x_cnAt (fu : Nat) (h : JJ A M KN KS t T im ig F ek ty nw) {i : Nat} (hi : i < 16) : ((mF A 768 (342 + 4 * i)) = 0 ∧ fX9_connectionAt fu 317 (nI i) M = some (none, M)) ∨ ∃ c hd ft b0 v, mB M 318 i = some c ∧ (mF A 768 (342 + 4 * i)) ≠ 0 ∧ TK A M KN KS t T im ig i c nw hd ft b0 v ∧ fX9_connectionAt fu 317 (nI i) M = some (some c, M) := by
  have hW := h.xw
  have o := xw_ok317 hW
  unfold fX9_connectionAt
  rw [if_neg (nI_pos (by omega)), if_pos (show (nI i : Int32) < (16 : Int32) from nI_lt (b := 16) hi (by decide)), gR_ok o, ob_some, xw_g580_317 hW, gB_ok (xw_ok318 hW) (by rw [xw_ln318 hW]; omega) (by omega), ob_some]
  by_cases z : (mF A 768 (342 + 4 * i)) = 0
  · refine Or.inl ⟨z, ?_⟩
    rcases h.cc i hi with ⟨e1, e2⟩ | ⟨c, e1, e2, e3⟩
    · rw [e1, if_pos rfl]
    · rw [e1, if_neg (by simp), gI_ok e2, ob_some]
      rcases e3 with ⟨s1, s2⟩ | hL
      · rw [if_pos s2]
      · obtain ⟨ce, -⟩ := hL
        rw [if_pos (ce.st.symm.trans z)]
  · rcases h.live hi with y | ⟨c, hd, ft, b0, v, y1, y2, y3⟩
    · exact absurd y z
    · exact Or.inr ⟨c, hd, ft, b0, v, y1, y2, y3, by rw [y1, if_neg (by simp), gI_ok y3.cn.1, ob_some, if_neg (fun q => z (y3.ce.st.trans q))]⟩
theorem td_x {k c hd ft : Nat} {b0 : Int32} {v : Nat → Nat} (h : TK A M KN KS t T im ig k c nw hd ft b0 v) : (mF M 324 (c + 5)) = nI (min NV (tD A k)) := by
  have n2 := h.n2
  rcases td_at h with ⟨t1, t2, t3, t4⟩ | ⟨t1, t2, t3, t4, t5, t6, t7⟩
  · rw [t3, t4]; rfl
  · rw [t4, t5, Nat.min_eq_right (by unfold NV; omega)]
theorem x_earlC (fu : Nat) (hfu : 100 ≤ fu) (h : JJ A M KN KS t T im ig F ek ty nw) : ∃ e, fX9_earliest fu 317 M = some (nI e, M) ∧ e ≤ NV ∧ (∀ k, k < 16 → e ≤ tD A k ∧ e ≤ lD A k) ∧ (e = NV ∨ ∃ k, k < 16 ∧ (e = tD A k ∨ e = lD A k)) := by
  have hW := h.xw
  have o := xw_ok317 hW
  have L : ∀ (d j m e : Nat), j + d = 16 → d ≤ m → e ≤ NV → (∀ i, i < j → e ≤ tD A i ∧ e ≤ lD A i) → (e = NV ∨ ∃ k, k < 16 ∧ (e = tD A k ∨ e = lD A k)) → ∃ e', fX9_earliest_L5 fu (m + 1) 317 (nI e) (nI j) M = some (nI e', M) ∧ e' ≤ NV ∧ (∀ i, i < 16 → e' ≤ tD A i ∧ e' ≤ lD A i) ∧ (e' = NV ∨ ∃ k, k < 16 ∧ (e' = tD A k ∨ e' = lD A k)) := by
    intro d
    induction d with
    | zero =>
      intro j m e h1 _ h3 h4 h5
      have : j = 16 := by omega
      subst this
      exact ⟨e, by rw [fX9_earliest_L5, if_pos (show (16 : Int32) ≤ nI 16 by decide)], h3, h4, h5⟩
    | succ d ih =>
      intro j m e h1 h2 h3 h4 h5
      have hj : j < 16 := by omega
      rw [fX9_earliest_L5, if_neg (show ¬ (16 : Int32) ≤ nI j from nI_ge (b := 16) hj (by decide)), rc_ok o, ob_some]
      unfold fX9_earliest_L40
      rcases x_cnAt fu h hj with ⟨z1, z2⟩ | ⟨c, hd, ft, b0, v, y1, y2, y3, y4⟩
      · obtain ⟨d1, d2⟩ := dead_at z1
        rw [z2, b2_some, if_pos rfl, nI_1, show m = m - 1 + 1 by omega]
        refine ih (j + 1) (m - 1) e (by omega) (by omega) h3 (fun i hi => ?_) h5
        by_cases z : i = j
        · rw [z, d1, d2]; unfold NV MX at *; omega
        · exact h4 i (by omega)
      · have c1 := y3.cn.1
        have cp := y3.cn.2.2.2.1
        have c5 := y3.cn.2.2.2.2.2.2.2.2.2.2.2.2.2
        rw [y4, b2_some, if_neg (by simp), gR_ok c1, ob_some, cp, gI_ok c5, ob_some, rc_ok c1, ob_some, x_life fu y3, b2_some, td_x y3, jmin_nI (by unfold NV; omega) (by unfold NV; omega), jmin_nI (by unfold NV at *; omega) (by unfold NV; omega), nI_1, show m = m - 1 + 1 by omega]
        refine ih (j + 1) (m - 1) _ (by omega) (by omega) (by omega) (fun i hi => ?_) ?_
        · by_cases z : i = j
          · rw [z]; omega
          · have := h4 i (by omega); omega
        · have t1 := td_le y3
          have l1 := ld_le y3
          by_cases q1 : e ≤ tD A j ∧ e ≤ lD A j
          · rw [show min e (min (min NV (tD A j)) (min NV (lD A j))) = e by omega]
            exact h5
          · refine Or.inr ⟨j, hj, ?_⟩
            unfold NV MX at *
            omega
  obtain ⟨e, r1, r2, r3, r4⟩ := L 16 0 (fu - 1) NV (by omega) (by omega) (Nat.le_refl _) (fun i hi => by omega) (Or.inl rfl)
  rw [show fu - 1 + 1 = fu by omega] at r1
  exact ⟨e, r1, r2, r3, r4⟩
end Scan2
