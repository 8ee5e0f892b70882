/-! ===== part 9h: the reference looks for what is due first ===== -/
def SP (A : Mm) (j e : Nat) (a5 a6 : Int32) : Prop := (∀ i, i < j → e ≤ pD A i) ∧ ((e = MX ∧ a5 = -1 ∧ a6 = 0) ∨ ∃ k, k < j ∧ e = pD A k ∧ e < NV ∧ a5 = 0 ∧ a6 = nI k ∧ ∀ i, i < j → pD A i = e → (mF A 965 (422 + 2 * k)) ≤ (mF A 965 (422 + 2 * i)))
def SDg (A : Mm) (j e : Nat) (a5 a6 : Int32) : Prop := (∀ i, i < 8 → e ≤ pD A i) ∧ (∀ i, i < j → e ≤ dD A i) ∧ ((a5 ≠ 1 ∧ SP A 8 e a5 a6) ∨ ∃ k, k < j ∧ e = dD A k ∧ e < NV ∧ a5 = 1 ∧ a6 = nI k ∧ (∀ i, i < 8 → e < pD A i) ∧ ∀ i, i < j → dD A i = e → (mF A 838 (438 + 3 * k)) ≤ (mF A 838 (438 + 3 * i)))
def SCn (A : Mm) (j e : Nat) (a5 a6 : Int32) : Prop := (∀ i, i < 8 → e ≤ pD A i) ∧ (∀ i, i < 4 → e ≤ dD A i) ∧ (∀ i, i < j → e ≤ tD A i ∧ e ≤ lD A i) ∧ (SDg A 4 e a5 a6 ∨ ∃ k, k < j ∧ a6 = nI k ∧ e < NV ∧ (∀ i, i < 8 → e < pD A i) ∧ (∀ i, i < 4 → e < dD A i) ∧ (∀ i, i < k → e < tD A i ∧ e < lD A i) ∧ ((a5 = 2 ∧ e = tD A k) ∨ (a5 = 3 ∧ e = lD A k ∧ e < tD A k)))
section Scan
variable {A M : Mm} {KN KS t T im ig F ek ty nw : Nat} {a5 a6 : Int32}
theorem SP.rng {j e : Nat} (h : SP A j e a5 a6) : e < NV ∨ e = MX := by
  rcases h.2 with z | ⟨k, -, -, z, -⟩
  · exact Or.inr z.1
  · exact Or.inl z
theorem SDg.rng {j e : Nat} (h : SDg A j e a5 a6) : e < NV ∨ e = MX := by
  rcases h.2.2 with ⟨-, z⟩ | ⟨k, -, -, z, -⟩
  · exact z.rng
  · exact Or.inl z
theorem SCn.rng {j e : Nat} (h : SCn A j e a5 a6) : e < NV ∨ e = MX := by
  rcases h.2.2.2 with z | ⟨k, -, -, z, -⟩
  · exact z.rng
  · exact Or.inl z
theorem m_askDue (fu : Nat) (hR : RW A) {n O : Nat} {s o : Nat → Nat} (hJ : JWa n O nw s o A M) {i q : Nat} (hi : i < n) (hq : mB M 313 i = some q) : fX16_askDue fu (some (422 + 2 * s i)) A = some (lN (pD A (s i)), A) := by
  have hA := rw_pkO hR (s i) (hJ.2.2.2.2.1 i hi)
  have b := hJ.1.2
  obtain ⟨τ, as, w1, w2, w3, w4, w5, w6, w7, w8, w9⟩ := pd_at hJ hi hq
  unfold fX16_askDue
  rw [gI_ok hA, ob_some, gI_ok hA, ob_some, w1, w3, nI_l (by omega), nI_l (by omega), show (1000 : Int64) * lN as = lN (1000 * as) from lN_mul 1000 as, lN_add, w9]
theorem m_stepP (fu m : Nat) (k2 : Nat → Int32 → Int32 → Mm → Option (Mm)) (a1 : Int32) (hR : RW A) {n O : Nat} {s o : Nat → Nat} (hJ : JWa n O nw s o A M) {j e : Nat} (hj : j < 8) (h : SP A j e a5 a6) : ∃ e' a5' a6', SP A (j + 1) e' a5' a6' ∧ fX16_passTo_L19 fu k2 (m + 1) 323 a1 (lN e) a5 a6 (nI j) A = fX16_passTo_L19 fu k2 m 323 a1 (lN e') a5' a6' (nI (j + 1)) A := by
  have er := h.rng
  have eN : e < 2 ^ 63 := by unfold NV MX at er; omega
  have b := hJ.1.2
  obtain ⟨h1, h2⟩ := h
  have hA := rw_pkO hR j hj
  have o := rw_ok323 hR
  rw [fX16_passTo_L19, if_neg (show ¬ (8 : Int32) ≤ nI j from nI_ge (b := 8) hj (by decide)), gR_ok o, ob_some, rw_g1051_323 hR, gB_ok (rw_ok336 hR) (by rw [rw_ln336 hR]; omega) (by omega), ob_some, rw_pkB hR j hj, gI_ok hA, ob_some]
  unfold fX16_passTo_L94 fX16_passTo_L81 fX16_passTo_L94
  have keep : e ≤ pD A j → (∀ k, k < j → e = pD A k → e < NV → a6 = nI k → pD A j = e → (mF A 965 (422 + 2 * k)) ≤ (mF A 965 (422 + 2 * j))) → SP A (j + 1) e a5 a6 := fun y1 y2 => by
    refine ⟨fun i hi => ?_, ?_⟩
    · by_cases z : i = j
      · rw [z]; exact y1
      · exact h1 i (by omega)
    · rcases h2 with z | ⟨k, z1, z2, z3, z4, z5, z6⟩
      · exact Or.inl z
      · refine Or.inr ⟨k, by omega, z2, z3, z4, z5, fun i hi z => ?_⟩
        by_cases y : i = j
        · rw [y] at z ⊢
          exact y2 k z1 z2 z3 z5 z
        · exact z6 i (by omega) z
  rcases pd_no hJ hj with ⟨u, p⟩ | ⟨i, q, i1, rfl, i3⟩
  · rw [if_pos u, nI_1]
    refine ⟨e, a5, a6, keep (by rw [p]; unfold NV MX at *; omega) (fun k y1 y2 y3 y4 y5 => ?_), rfl⟩
    rw [p] at y5
    unfold NV MX at *
    omega
  · obtain ⟨τ, as, w1, w2, w3, w4, w5, w6, w7, w8, w9⟩ := pd_at hJ i1 i3
    have pN : pD A (s i) < NV := by rw [w9]; unfold NV; omega
    have pN' : pD A (s i) < 2 ^ 63 := by unfold NV at pN; omega
    have aD := m_askDue fu hR hJ i1 i3
    obtain ⟨L1, L2, -, -⟩ := lgc pN' eN
    have take : (∀ i', i' < s i → pD A (s i) ≤ pD A i') → (∀ i', i' < s i → pD A i' = pD A (s i) → (mF A 965 (422 + 2 * (s i))) ≤ (mF A 965 (422 + 2 * i'))) → SP A (s i + 1) (pD A (s i)) 0 (nI (s i)) := fun y1 y2 => by
      refine ⟨fun i' hi => ?_, Or.inr ⟨s i, by omega, rfl, pN, rfl, rfl, fun i' hi z => ?_⟩⟩
      · by_cases z : i' = s i
        · rw [z]; exact Nat.le_refl _
        · exact y1 i' (by omega)
      · by_cases y : i' = s i
        · rw [y]; exact Int32.le_refl _
        · exact y2 i' (by omega) z
    rw [if_neg (by rw [hJ.2.2.2.2.2.2.1 i i1]; decide), aD, b2_some]
    by_cases c1 : pD A (s i) < e
    · rw [if_pos (L1.mpr c1), aD, b2_some, nI_1]
      exact ⟨pD A (s i), 0, nI (s i), take (fun i' hi => by have := h1 i' hi; omega) (fun i' hi z => by have := h1 i' hi; omega), rfl⟩
    · rw [if_neg (fun z => c1 (L1.mp z)), aD, b2_some]
      by_cases c2 : pD A (s i) = e
      · rw [if_pos (L2.mpr c2), gI_ok hA, ob_some, gR_ok o, ob_some, rw_g1051_323 hR]
        rcases h2 with z | ⟨k, z1, z2, z3, z4, z5, z6⟩
        · unfold NV MX at *
          omega
        · have hk := rw_pkO hR k (by omega)
          rw [z5, gB_ok (rw_ok336 hR) (by rw [rw_ln336 hR]; omega) (by omega), ob_some, rw_pkB hR k (by omega), gI_ok hk, ob_some]
          by_cases c3 : (mF A 965 (422 + 2 * k)) ≤ (mF A 965 (422 + 2 * (s i)))
          · rw [if_pos c3, nI_1]
            exact ⟨e, a5, a6, keep (by omega) (fun k' y1 y2 y3 y4 y5 => by
              have e1 : k' = k := (nI_eq (by omega) (by omega)).mp (y4.symm.trans z5)
              rw [e1]; exact c3), by rw [z5]⟩
          · rw [if_neg c3, aD, b2_some, nI_1]
            exact ⟨pD A (s i), 0, nI (s i), take (fun i' hi => by have := h1 i' hi; omega) (fun i' hi z => Int32.le_trans (Int32.le_of_lt (Int32.not_le.mp c3)) (z6 i' hi (by omega))), rfl⟩
      · rw [if_neg (fun z => c2 (L2.mp z)), nI_1]
        exact ⟨e, a5, a6, keep (by omega) (fun k y1 y2 y3 y4 y5 => absurd y5 c2), rfl⟩
theorem m_scanP (fu : Nat) (k2 : Nat → Int32 → Int32 → Mm → Option (Mm)) (a1 : Int32) (hR : RW A) {n O : Nat} {s o : Nat → Nat} (hJ : JWa n O nw s o A M) : ∀ (d j m e : Nat) (a5 a6 : Int32), j + d = 8 → d ≤ m → SP A j e a5 a6 → ∃ e' a5' a6', SP A 8 e' a5' a6' ∧ fX16_passTo_L19 fu k2 (m + 1) 323 a1 (lN e) a5 a6 (nI j) A = fX16_passTo_L103 fu k2 fu 323 a1 (lN e') a5' a6' 0 A := by
  intro d
  induction d with
  | zero =>
    intro j m e a5 a6 h1 _ h
    have : j = 8 := by omega
    subst this
    exact ⟨e, a5, a6, h, by rw [fX16_passTo_L19, if_pos (show (8 : Int32) ≤ nI 8 by decide)]⟩
  | succ d ih =>
    intro j m e a5 a6 h1 h2 h
    obtain ⟨e1, b5, b6, g1, g2⟩ := m_stepP fu m k2 a1 hR hJ (by omega) h
    obtain ⟨e2, c5, c6, g3, g4⟩ := ih (j + 1) (m - 1) e1 b5 b6 (by omega) (by omega) g1
    rw [show m - 1 + 1 = m by omega] at g4
    exact ⟨e2, c5, c6, g3, g2.trans g4⟩
theorem m_stepD (fu m : Nat) (k2 : Nat → Int32 → Int32 → Mm → Option (Mm)) (a1 : Int32) (hR : RW A) {n : Nat} {s τ : Nat → Nat} (hJ : JDa n nw s τ A M) {j e : Nat} (hj : j < 4) (h : SDg A j e a5 a6) : ∃ e' a5' a6', SDg A (j + 1) e' a5' a6' ∧ fX16_passTo_L103 fu k2 (m + 1) 323 a1 (lN e) a5 a6 (nI j) A = fX16_passTo_L103 fu k2 m 323 a1 (lN e') a5' a6' (nI (j + 1)) A := by
  have er := h.rng
  have eN : e < 2 ^ 63 := by unfold NV MX at er; omega
  have b := hJ.1.2
  obtain ⟨h0, h1, h2⟩ := h
  have hA := rw_dgO hR j hj
  have o := rw_ok323 hR
  rw [fX16_passTo_L103, if_neg (show ¬ (4 : Int32) ≤ nI j from nI_ge (b := 4) hj (by decide)), gR_ok o, ob_some, rw_g1052_323 hR, gB_ok (rw_ok337 hR) (by rw [rw_ln337 hR]; omega) (by omega), ob_some, rw_dgB hR j hj, gI_ok hA, ob_some, gI_ok hA, ob_some]
  unfold fX16_passTo_L186 fX16_passTo_L176 fX16_passTo_L186
  have keep : e ≤ dD A j → (∀ k, k < j → e = dD A k → e < NV → a6 = nI k → dD A j = e → (mF A 838 (438 + 3 * k)) ≤ (mF A 838 (438 + 3 * j))) → SDg A (j + 1) e a5 a6 := fun y1 y2 => by
    refine ⟨h0, fun i hi => ?_, ?_⟩
    · by_cases z : i = j
      · rw [z]; exact y1
      · exact h1 i (by omega)
    · rcases h2 with z | ⟨k, z1, z2, z3, z4, z5, z7, z6⟩
      · exact Or.inl z
      · refine Or.inr ⟨k, by omega, z2, z3, z4, z5, z7, fun i hi z => ?_⟩
        by_cases y : i = j
        · rw [y] at z ⊢
          exact y2 k z1 z2 z3 z5 z
        · exact z6 i (by omega) z
  rcases dd_no hJ hj with ⟨u, p⟩ | ⟨i, d, i1, rfl, i3⟩
  · rw [if_pos u, nI_1]
    refine ⟨e, a5, a6, keep (by rw [p]; unfold NV MX at *; omega) (fun k y1 y2 y3 y4 y5 => ?_), rfl⟩
    rw [p] at y5
    unfold NV MX at *
    omega
  · obtain ⟨w1, w2, w7, w8, w9⟩ := dd_at hJ i1 i3
    have pN : dD A (s i) < NV := by rw [w9]; unfold NV; omega
    have pN' : dD A (s i) < 2 ^ 63 := by unfold NV at pN; omega
    obtain ⟨L1, L2, -, -⟩ := lgc pN' eN
    have aD : Int32.toInt64 ((mF A 837 (438 + 3 * (s i)))) + (15000 : Int64) = lN (dD A (s i)) := by
      rw [w1, w9, nI_l (by omega), show (15000 : Int64) = lN 15000 from rfl, lN_add]
    have take : (∀ i', i' < s i → dD A (s i) ≤ dD A i') → (∀ i', i' < 8 → dD A (s i) < pD A i') → (∀ i', i' < s i → dD A i' = dD A (s i) → (mF A 838 (438 + 3 * (s i))) ≤ (mF A 838 (438 + 3 * i'))) → SDg A (s i + 1) (dD A (s i)) 1 (nI (s i)) := fun y1 y3 y2 => by
      refine ⟨fun i' hi => by have := y3 i' hi; omega, fun i' hi => ?_, Or.inr ⟨s i, by omega, rfl, pN, rfl, rfl, y3, fun i' hi z => ?_⟩⟩
      · by_cases z : i' = s i
        · rw [z]; exact Nat.le_refl _
        · exact y1 i' (by omega)
      · by_cases y : i' = s i
        · rw [y]; exact Int32.le_refl _
        · exact y2 i' (by omega) z
    rw [if_neg (by rw [hJ.2.2.2.2.2.1 i i1]; decide), aD]
    by_cases c1 : dD A (s i) < e
    · rw [if_pos (L1.mpr c1), nI_1]
      exact ⟨dD A (s i), 1, nI (s i), take (fun i' hi => by have := h1 i' hi; omega) (fun i' hi => by have := h0 i' hi; omega) (fun i' hi z => by have := h1 i' hi; omega), rfl⟩
    · rw [if_neg (fun z => c1 (L1.mp z))]
      by_cases c2 : dD A (s i) = e
      · rw [if_pos (L2.mpr c2)]
        rcases h2 with ⟨z, z'⟩ | ⟨k, z1, z2, z3, z4, z5, z7, z6⟩
        · rw [if_neg z, nI_1]
          refine ⟨e, a5, a6, ⟨h0, fun i' hi => ?_, Or.inl ⟨z, z'⟩⟩, rfl⟩
          by_cases y : i' = s i
          · rw [y, c2]; exact Nat.le_refl _
          · exact h1 i' (by omega)
        · have hk := rw_dgO hR k (by omega)
          rw [if_pos z4, gI_ok hA, ob_some, ob_some, z5, gB_ok (rw_ok337 hR) (by rw [rw_ln337 hR]; omega) (by omega), ob_some, rw_dgB hR k (by omega), gI_ok hk, ob_some]
          by_cases c3 : (mF A 838 (438 + 3 * k)) ≤ (mF A 838 (438 + 3 * (s i)))
          · rw [if_pos c3, nI_1]
            exact ⟨e, a5, a6, keep (by omega) (fun k' y1 y2 y3 y4 y5 => by
              have e1 : k' = k := (nI_eq (by omega) (by omega)).mp (y4.symm.trans z5)
              rw [e1]; exact c3), by rw [z5]⟩
          · rw [if_neg c3, nI_1]
            exact ⟨dD A (s i), 1, nI (s i), take (fun i' hi => by have := h1 i' hi; omega) (fun i' hi => by have := z7 i' hi; omega) (fun i' hi z => Int32.le_trans (Int32.le_of_lt (Int32.not_le.mp c3)) (z6 i' hi (by omega))), rfl⟩
      · rw [if_neg (fun z => c2 (L2.mp z)), nI_1]
        exact ⟨e, a5, a6, keep (by omega) (fun k y1 y2 y3 y4 y5 => absurd y5 c2), rfl⟩
theorem m_scanD (fu : Nat) (k2 : Nat → Int32 → Int32 → Mm → Option (Mm)) (a1 : Int32) (hR : RW A) {n : Nat} {s τ : Nat → Nat} (hJ : JDa n nw s τ A M) : ∀ (d j m e : Nat) (a5 a6 : Int32), j + d = 4 → d ≤ m → SDg A j e a5 a6 → ∃ e' a5' a6', SDg A 4 e' a5' a6' ∧ fX16_passTo_L103 fu k2 (m + 1) 323 a1 (lN e) a5 a6 (nI j) A = fX16_passTo_L195 fu k2 fu 323 a1 (lN e') a5' a6' 0 A := by
  intro d
  induction d with
  | zero =>
    intro j m e a5 a6 h1 _ h
    have : j = 4 := by omega
    subst this
    exact ⟨e, a5, a6, h, by rw [fX16_passTo_L103, if_pos (show (4 : Int32) ≤ nI 4 by decide)]⟩
  | succ d ih =>
    intro j m e a5 a6 h1 h2 h
    obtain ⟨e1, b5, b6, g1, g2⟩ := m_stepD fu m k2 a1 hR hJ (by omega) h
    obtain ⟨e2, c5, c6, g3, g4⟩ := ih (j + 1) (m - 1) e1 b5 b6 (by omega) (by omega) g1
    rw [show m - 1 + 1 = m by omega] at g4
    exact ⟨e2, c5, c6, g3, g2.trans g4⟩
end Scan
