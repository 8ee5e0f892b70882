/-! ===== part 86: what leaves the link level as it was ===== -/
/-- reference fields of the class that may come to point elsewhere -/
def varG (f : Nat) : Prop := f = 192 ∨ f = 512 ∨ f = 514 ∨ f = 710
theorem XW_of2 {M M' : Mm} (hN : 450 ≤ sN (mS M)) (hN' : sN (mS M) ≤ sN (mS M')) (hT : ∀ a, a < sN (mS M) → sTy (mS M') a = sTy (mS M) a ∧ sLen (mS M') a = sLen (mS M) a) (hG : ∀ f a, a < sN (mS M) → ¬ varG f → mG M' f a = mG M f a) (h : XW M) : XW M' := by
  have h1 : ∀ f a, a < 450 → f ≠ 192 → f ≠ 512 → f ≠ 514 → f ≠ 710 → mG M' f a = mG M f a := fun f a ha g1 g2 g3 g4 => hG f a (by omega) (by unfold varG; omega)
  have h2 : ∀ a, a < 450 → sLen (mS M') a = sLen (mS M) a := fun a ha => (hT a (by omega)).2
  have h3 : ∀ t a, a < 450 → okA M' t a = okA M t a := fun t a ha => by
    unfold okA
    rw [(hT a (by omega)).1]
    exact propext ⟨fun q => ⟨q.1, by omega, q.2.2⟩, fun q => ⟨q.1, by omega, q.2.2⟩⟩
  unfold XW at h ⊢
  simp only [h1, h2, h3, Nat.reduceLT, ne_eq, Nat.reduceEqDiff, not_false_eq_true]
  exact h
theorem XS_of2 {M M' : Mm} (hS : mS M' = mS M) (hG : ∀ f a, ¬ varG f → mG M' f a = mG M f a) (h : XS M) : XS M' := by
  have h1 : ∀ f a, f ≠ 192 → f ≠ 512 → f ≠ 514 → f ≠ 710 → mG M' f a = mG M f a := fun f a g1 g2 g3 g4 => hG f a (by unfold varG; omega)
  unfold XS okA at *
  simp only [hS, h1, ne_eq, Nat.reduceEqDiff, not_false_eq_true]
  exact h
section Keep
variable {A A' M M' : Mm}
/-- the fields of the reference that the link level looks at -/
def JLf (f : Nat) : Prop := (896 ≤ f ∧ f < 1024) ∨ (1029 ≤ f ∧ f ≤ 1034) ∨ f = 1042 ∨ f = 1047 ∨ f = 1048
theorem JL0_mono {KN KS t u T : Nat} (hu : t + u ≤ 1000) (h : JL0 KN KS t T A M) : JL0 KN KS (t + u) T A M := by
  obtain ⟨h1, h2, h3, h4, h5, h6, h7, n, O, nw, s, o, hO, hJ⟩ := h
  exact ⟨h1, h2, h3, h4, h5, h6, h7, n, O, nw, s, o, by omega, hJ⟩
theorem JL0_keep {KN KS KN' KS' t u T : Nat} (h : JL0 KN KS t T A M) (hu : t + u ≤ 1000) (hR : RW A') (hW : XW M') (hS : XS M') (hX : XRR KN' KS' M') (a1 : ∀ f a, JLf f → mF A' f a = mF A f a) (h49 : ∀ O, (mF A 1049 323) = nI O → ∃ O', (mF A' 1049 323) = nI O' ∧ O ≤ O' ∧ O' ≤ O + u) (a2 : ∀ a, (332 ≤ a ∧ a ≤ 334) ∨ (422 ≤ a ∧ a < 438) → mA A' a = mA A a)
    (m1 : ∀ f, 256 ≤ f → f < 320 → mF M' f 307 = mF M f 307) (m2 : ∀ f, 641 ≤ f → f ≤ 643 → mF M' f 304 = mF M f 304) (m3 : ∀ p, okA M 6 p → (∀ f, 384 ≤ f → f < 448 → mF M' f p = mF M f p) ∧ mA M' (p + 1) = mA M (p + 1)) (m4 : ∀ a, 309 ≤ a → a ≤ 312 → mA M' a = mA M a) (m5 : mB M' 306 = mB M 306) (m6 : mB M' 313 = mB M 313) : JL0 KN' KS' (t + u) T A' M' := by
  obtain ⟨-, -, -, hX0, hP, hQ, hE, n, O, nw, s, o, hO, hJ⟩ := h
  obtain ⟨nr, nww, nd, nc, -, -, -, -, r1, r2, -⟩ := hX0
  refine ⟨hR, hW, hS, hX, JP_congr (A := A) (M := M) (fun f h1 h2 => ⟨a1 _ _ (by unfold JLf; omega), a1 _ _ (by unfold JLf; omega)⟩) (a1 _ _ (by unfold JLf; omega)) (a1 _ _ (by unfold JLf; omega)) (fun f h1 h2 h3 h4 => m1 f (by omega) (by omega)) (m2 _ (by decide) (by decide)) (m2 _ (by decide) (by decide)) hP, JQ_congr (A := A) (M := M) (a1 _ _ (by unfold JLf; omega)) (fun a h1 h2 => a2 a (by omega)) (m2 _ (by decide) (by decide)) m5 (fun i p e => ⟨(m3 p (rowN_at r1 e).2).1 _ (by decide) (by decide), (m3 p (rowN_at r1 e).2).1 _ (by decide) (by decide), (m3 p (rowN_at r1 e).2).2⟩) hQ, JE_congr (A := A) (M := M) (fun f a h1 h2 => a1 _ _ (by unfold JLf; omega)) (m1 _ (by decide) (by decide)) m4 hE, ?_⟩
  have hJ' := hJ
  obtain ⟨q1, q2, q3, q4, q5, q6, q7, q8, q9, q10, q11, q12⟩ := hJ'
  obtain ⟨O', e1, e2, e3⟩ := h49 O q3
  refine ⟨n, O', nw, s, o, by omega, ?_⟩
  refine ⟨q1, (m1 _ (by decide) (by decide)).trans q2, e1, (a1 _ _ (by unfold JLf; omega)).trans q4, q5, q6, fun i hi => ?_, fun k hk h => ?_, fun i hi => ?_, q10, fun i hi => ⟨?_, ?_⟩, fun i j hi hj => ?_⟩
  · rw [a1 _ _ (by unfold JLf; omega)]; exact q7 i hi
  · rw [a1 _ _ (by unfold JLf; omega)]; exact q8 k hk h
  · obtain ⟨q, g1, g2⟩ := q9 i hi
    have := q5 i hi
    exact ⟨q, by rw [m6]; exact g1, W1_congr (A := A) (M := M) (fun f h1 h2 => a1 _ _ (by unfold JLf; omega)) (a2 _ (by omega)) (fun f h1 h2 => (m3 q (rowN_at r2 g1).2).1 f (by omega) (by omega)) (m3 q (rowN_at r2 g1).2).2 g2⟩
  · have := (q11 i hi).1; omega
  · rw [a1 _ _ (by unfold JLf; omega)]; exact (q11 i hi).2
  · rw [a1 _ _ (by unfold JLf; omega), a1 _ _ (by unfold JLf; omega)]; exact q12 i j hi hj
/-- a new datagram, in place n of its row -/
theorem XS_nDg (h0 : 450 ≤ sN (mS M)) (h : XS M) : XS (nDg M) := by
  obtain ⟨e0, e1⟩ := nDg_ext (M := M)
  obtain ⟨t1, t2, t3, l2, l3⟩ := nDg_T (M := M)
  obtain ⟨g1, g2⟩ := nDg_G (M := M)
  have old : ∀ t a, a < sN (mS M) → okA (nDg M) t a → okA M t a := fun t a ha h => ⟨h.1, ha, by rw [← (e1 a ha).1]; exact h.2.2⟩
  have new : ∀ t a, okA M t a → okA (nDg M) t a := fun t a h => ⟨h.1, by have := h.2.1; rw [nDg_N]; omega, by rw [(e1 a h.2.1).1]; exact h.2.2⟩
  have cs : ∀ t a, okA (nDg M) t a → a < sN (mS M) ∨ (a = sN (mS M) ∧ t = 2) ∨ (a = sN (mS M) + 1 ∧ t = 100) ∨ (a = sN (mS M) + 2 ∧ t = 101) := fun t a h => by
    have h1 := h.2.1
    rw [nDg_N] at h1
    have h2 := h.2.2
    by_cases c1 : a = sN (mS M)
    · subst c1; rw [t1] at h2; exact Or.inr (Or.inl ⟨rfl, h2.symm⟩)
    · by_cases c2 : a = sN (mS M) + 1
      · subst c2; rw [t2] at h2; exact Or.inr (Or.inr (Or.inl ⟨rfl, h2.symm⟩))
      · by_cases c3 : a = sN (mS M) + 2
        · subst c3; rw [t3] at h2; exact Or.inr (Or.inr (Or.inr ⟨rfl, h2.symm⟩))
        · exact Or.inl (by omega)
  obtain ⟨x1, x2, x3⟩ := h
  refine ⟨fun p hp => ?_, fun d hd => ?_, fun c hc => ?_⟩
  · rcases cs 6 p hp with q | ⟨-, q⟩ | ⟨-, q⟩ | ⟨-, q⟩
    · obtain ⟨y1, y2, y3⟩ := x1 p (old _ _ q hp)
      exact ⟨by rw [(e1 p q).2.2.2.1]; exact y1, new _ _ y2, by rw [(e1 _ y2.2.1).2.1]; exact y3⟩
    · cases q
    · cases q
    · cases q
  · rcases cs 2 d hd with q | ⟨q, -⟩ | ⟨-, q⟩ | ⟨-, q⟩
    · obtain ⟨y1, y2, y3, y4, y5, y6⟩ := x2 d (old _ _ q hd)
      exact ⟨by rw [(e1 d q).2.2.2.1]; exact y1, by rw [(e1 d q).2.2.2.1]; exact y2, new _ _ y3, by rw [(e1 _ y3.2.1).2.1]; exact y4, new _ _ y5, by rw [(e1 _ y5.2.1).2.1]; exact y6⟩
    · subst q
      exact ⟨g1, g2, ⟨by omega, by rw [nDg_N]; omega, t2⟩, l2, ⟨by omega, by rw [nDg_N]; omega, t3⟩, l3⟩
    · cases q
    · cases q
  · rcases cs 1 c hc with q | ⟨-, q⟩ | ⟨-, q⟩ | ⟨-, q⟩
    · obtain ⟨y1, y2, y3, y4, y5, y6, y7, y8, y9, y10, y11, y12, y13⟩ := x3 c (old _ _ q hc)
      exact ⟨by rw [(e1 c q).2.2.2.1]; exact y1, by rw [(e1 c q).2.2.2.1]; exact y2, by rw [(e1 c q).2.2.2.1]; exact y3, new _ _ y4, by rw [(e1 _ y4.2.1).2.1]; exact y5, new _ _ y6, by rw [(e1 _ y6.2.1).2.2.2.1]; exact y7, by rw [(e1 _ y6.2.1).2.2.2.1]; exact y8, new _ _ y9, by rw [(e1 _ y9.2.1).2.1]; exact y10, new _ _ y11, by rw [(e1 _ y11.2.1).2.1]; exact y12, new _ _ y13⟩
    · cases q
    · cases q
    · cases q
end Keep
