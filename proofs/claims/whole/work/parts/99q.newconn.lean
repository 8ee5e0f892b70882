/-! ===== part 99q: a place for a new connection, in both ===== -/
section NewConn
variable {A M A' M' : Mm} {KN KS t T im ig F ek ty nw : Nat}
theorem x_newCn (fu : Nat) (h0 : 300 ≤ sN (mS M)) (h1 : sN (mS M) + 6 ≤ 600300) (h2 : sSl (mS M) + 4524 ≤ 7302250) : ∃ M1, mkO M 1 = some (sN (mS M), M1) ∧ fX1_init fu (sN (mS M)) M1 = some (nCn M) := by
  have e20 : clN 1 = 20 := by decide
  have e10 : clN 0 = 10 := by decide
  have e14 : clN 5 = 14 := by decide
  obtain ⟨t1, t2, t3, t4, t5, t6, l2, l4, l5⟩ := nCn_T (M := M)
  refine ⟨nO M 1 20, ?_, ?_⟩
  · rw [mkO_at 1 (by omega) (by rw [e20]; omega), e20]
  generalize hn : sN (mS M) = n at h0 h1
  generalize hs : sSl (mS M) = s at h2
  have n1 : ∀ (X : Mm) (t a : Nat), sTy (mS X) a = t → a < sN (mS X) → 300 ≤ a → okA X t a := fun X t a q1 q2 q3 => ⟨q3, q2, q1⟩
  unfold fX1_init fX0_init fX5_init
  have a1 : mkA (nO M 1 20) 100 (256 : Int32) = some (n + 1, nA (nO M 1 20) 100 256) := by
    have := mkA_at (M := nO M 1 20) 100 (k := 256) (by decide) (by show sN (mS M) + 1 + 1 ≤ 600300; omega) (by show sSl (mS M) + 20 + 256 ≤ 7302250; omega)
    rw [show sN (mS (nO M 1 20)) = n + 1 from by show sN (mS M) + 1 = _; rw [hn]] at this
    exact this
  generalize hX1 : nA (nO M 1 20) 100 256 = X1 at a1
  have T1 : ∀ a, sTy (mS X1) a = (if a = n + 1 then 100 else if a = n then 1 else sTy (mS M) a) := fun a => by subst hX1; subst hn; rfl
  have N1 : sN (mS X1) = n + 2 := by subst hX1; subst hn; rfl
  have S1 : sSl (mS X1) = s + 276 := by subst hX1; subst hs; rfl
  have o1 : okA X1 1 n := n1 _ _ _ (by rw [T1, if_neg (by omega), if_pos rfl]) (by omega) h0
  rw [a1, b2_some, pG_ok o1, ob_some]
  generalize hX2 : sG X1 79 n (some (n + 1)) = X2
  have T2 : ∀ a, sTy (mS X2) a = sTy (mS X1) a := fun a => by subst hX2; rfl
  have N2 : sN (mS X2) = n + 2 := by subst hX2; exact N1
  have S2 : sSl (mS X2) = s + 276 := by subst hX2; exact S1
  have m2 : mkO X2 0 = some (n + 2, nO X2 0 10) := by
    rw [mkO_at 0 (by omega) (by rw [e10]; omega), e10, N2]
  rw [m2, b2_some]
  generalize hX3 : nO X2 0 10 = X3
  have T3 : ∀ a, sTy (mS X3) a = (if a = n + 2 then 0 else sTy (mS X1) a) := fun a => by
    subst hX3
    show (if a = sN (mS X2) then 0 else sTy (mS X2) a) = _
    rw [N2, T2]
  have N3 : sN (mS X3) = n + 3 := by subst hX3; show sN (mS X2) + 1 = _; rw [N2]
  have S3 : sSl (mS X3) = s + 286 := by subst hX3; show sSl (mS X2) + 10 = _; rw [S2]
  have m3 : mkA X3 100 (4096 : Int32) = some (n + 3, nA X3 100 4096) := by
    have := mkA_at (M := X3) 100 (k := 4096) (by decide) (by omega) (by omega)
    rw [N3] at this
    exact this
  rw [m3, b2_some]
  generalize hX4 : nA X3 100 4096 = X4
  have T4 : ∀ a, sTy (mS X4) a = (if a = n + 3 then 100 else sTy (mS X3) a) := fun a => by
    subst hX4
    show (if a = sN (mS X3) then 100 else sTy (mS X3) a) = _
    rw [N3]
  have N4 : sN (mS X4) = n + 4 := by subst hX4; show sN (mS X3) + 1 = _; rw [N3]
  have S4 : sSl (mS X4) = s + 4382 := by subst hX4; show sSl (mS X3) + 4096 = _; rw [S3]
  have o4 : okA X4 0 (n + 2) := n1 _ _ _ (by rw [T4, if_neg (by omega), T3, if_pos rfl]) (by omega) (by omega)
  rw [pG_ok o4, ob_some]
  generalize hX5 : sG X4 5 (n + 2) (some (n + 3)) = X5
  have T5 : ∀ a, sTy (mS X5) a = sTy (mS X4) a := fun a => by subst hX5; rfl
  have N5 : sN (mS X5) = n + 4 := by subst hX5; exact N4
  have S5 : sSl (mS X5) = s + 4382 := by subst hX5; exact S4
  have m5 : mkA X5 101 (128 : Int32) = some (n + 4, nA X5 101 128) := by
    have := mkA_at (M := X5) 101 (k := 128) (by decide) (by omega) (by omega)
    rw [N5] at this
    exact this
  rw [m5, b2_some]
  generalize hX6 : nA X5 101 128 = X6
  have T6 : ∀ a, sTy (mS X6) a = (if a = n + 4 then 101 else sTy (mS X4) a) := fun a => by
    subst hX6
    show (if a = sN (mS X5) then 101 else sTy (mS X5) a) = _
    rw [N5, T5]
  have N6 : sN (mS X6) = n + 5 := by subst hX6; show sN (mS X5) + 1 = _; rw [N5]
  have S6 : sSl (mS X6) = s + 4510 := by subst hX6; show sSl (mS X5) + 128 = _; rw [S5]
  have o6 : okA X6 0 (n + 2) := n1 _ _ _ (by rw [T6, if_neg (by omega), T4, if_neg (by omega), T3, if_pos rfl]) (by omega) (by omega)
  rw [pG_ok o6, ob_some, ob_some]
  generalize hX7 : sG X6 6 (n + 2) (some (n + 4)) = X7
  have o7 : okA X7 1 n := by
    subst hX7
    exact n1 _ _ _ (by show sTy (mS X6) n = 1; rw [T6, if_neg (by omega), T4, if_neg (by omega), T3, if_neg (by omega), T1, if_neg (by omega), if_pos rfl]) (by show n < sN (mS X6); omega) h0
  rw [pG_ok o7, ob_some]
  generalize hX8 : sG X7 80 n (some (n + 2)) = X8
  have N8 : sN (mS X8) = n + 5 := by subst hX8; subst hX7; exact N6
  have S8 : sSl (mS X8) = s + 4510 := by subst hX8; subst hX7; exact S6
  have m8 : mkO X8 5 = some (n + 5, nO X8 5 14) := by
    rw [mkO_at 5 (by omega) (by rw [e14]; omega), e14, N8]
  rw [m8, b2_some, ob_some]
  have o9 : okA (nO X8 5 14) 1 n := by
    refine n1 _ _ _ ?_ (by show n < sN (mS X8) + 1; omega) h0
    show (if n = sN (mS X8) then 5 else sTy (mS X8) n) = 1
    rw [N8, if_neg (by omega)]
    subst hX8
    exact o7.2.2
  rw [pG_ok o9, ob_some]
  subst hX8 hX7 hX6 hX5 hX4 hX3 hX2 hX1 hn
  rfl
theorem XS_nCn (h0 : 450 ≤ sN (mS M)) (h : XS M) : XS (nCn M) := by
  obtain ⟨e0, e1⟩ := nCn_ext (M := M)
  obtain ⟨t1, t2, t3, t4, t5, t6, l2, l4, l5⟩ := nCn_T (M := M)
  obtain ⟨g1, g2, g3, g4, g5⟩ := nCn_G (M := M)
  have old : ∀ t a, a < sN (mS M) → okA (nCn M) t a → okA M t a := fun t a ha h => ⟨h.1, ha, by rw [← (e1 a ha).1]; exact h.2.2⟩
  have new : ∀ t a, okA M t a → okA (nCn M) t a := fun t a h => ⟨h.1, by have := h.2.1; rw [nCn_N]; omega, by rw [(e1 a h.2.1).1]; exact h.2.2⟩
  have cs : ∀ t a, okA (nCn M) t a → a < sN (mS M) ∨ (a = sN (mS M) ∧ t = 1) ∨ (t = 100 ∨ t = 0 ∨ t = 101 ∨ t = 5) := fun t a h => by
    have h1 := h.2.1
    rw [nCn_N] at h1
    have h2 := h.2.2
    by_cases c1 : a < sN (mS M)
    · exact Or.inl c1
    · refine Or.inr ?_
      have hh : a = sN (mS M) ∨ a = sN (mS M) + 1 ∨ a = sN (mS M) + 2 ∨ a = sN (mS M) + 3 ∨ a = sN (mS M) + 4 ∨ a = sN (mS M) + 5 := by omega
      rcases hh with q | q | q | q | q | q
      · subst q; rw [t1] at h2; exact Or.inl ⟨rfl, h2.symm⟩
      · subst q; rw [t2] at h2; exact Or.inr (Or.inl h2.symm)
      · subst q; rw [t3] at h2; exact Or.inr (Or.inr (Or.inl h2.symm))
      · subst q; rw [t4] at h2; exact Or.inr (Or.inl h2.symm)
      · subst q; rw [t5] at h2; exact Or.inr (Or.inr (Or.inr (Or.inl h2.symm)))
      · subst q; rw [t6] at h2; exact Or.inr (Or.inr (Or.inr (Or.inr h2.symm)))
  obtain ⟨x1, x2, x3⟩ := h
  refine ⟨fun p hp => ?_, fun d hd => ?_, fun c hc => ?_⟩
  · rcases cs 6 p hp with q | ⟨-, q⟩ | q
    · obtain ⟨y1, y2, y3⟩ := x1 p (old _ _ q hp)
      exact ⟨by rw [(e1 p q).2.2.2.1]; exact y1, new _ _ y2, by rw [(e1 _ y2.2.1).2.1]; exact y3⟩
    · cases q
    · omega
  · rcases cs 2 d hd with q | ⟨-, q⟩ | q
    · obtain ⟨y1, y2, y3, y4, y5, y6⟩ := x2 d (old _ _ q hd)
      exact ⟨by rw [(e1 d q).2.2.2.1]; exact y1, by rw [(e1 d q).2.2.2.1]; exact y2, new _ _ y3, by rw [(e1 _ y3.2.1).2.1]; exact y4, new _ _ y5, by rw [(e1 _ y5.2.1).2.1]; exact y6⟩
    · cases q
    · omega
  · rcases cs 1 c hc with q | ⟨q, -⟩ | q
    · obtain ⟨y1, y2, y3, y4, y5, y6, y7, y8, y9, y10, y11, y12, y13⟩ := x3 c (old _ _ q hc)
      exact ⟨by rw [(e1 c q).2.2.2.1]; exact y1, by rw [(e1 c q).2.2.2.1]; exact y2, by rw [(e1 c q).2.2.2.1]; exact y3, new _ _ y4, by rw [(e1 _ y4.2.1).2.1]; exact y5, new _ _ y6, by rw [(e1 _ y6.2.1).2.2.2.1]; exact y7, by rw [(e1 _ y6.2.1).2.2.2.1]; exact y8, new _ _ y9, by rw [(e1 _ y9.2.1).2.1]; exact y10, new _ _ y11, by rw [(e1 _ y11.2.1).2.1]; exact y12, new _ _ y13⟩
    · subst q
      exact ⟨g1, g2, g3, ⟨by omega, by rw [nCn_N]; omega, t2⟩, l2, ⟨by omega, by rw [nCn_N]; omega, t3⟩, g4, g5, ⟨by omega, by rw [nCn_N]; omega, t4⟩, l4, ⟨by omega, by rw [nCn_N]; omega, t5⟩, l5, ⟨by omega, by rw [nCn_N]; omega, t6⟩⟩
    · omega
/-- nothing but a new cell in place k of the row -/
def NwC (k : Nat) (M M0 : Mm) : Prop := sN (mS M) ≤ sN (mS M0) ∧ (∀ a, a < sN (mS M) → sTy (mS M0) a = sTy (mS M) a ∧ sLen (mS M0) a = sLen (mS M) a ∧ (∀ f, mF M0 f a = mF M f a) ∧ (∀ f, mG M0 f a = mG M f a) ∧ mA M0 a = mA M a ∧ (a ≠ 318 → mB M0 a = mB M a)) ∧ (∀ j, j ≠ k → mB M0 318 j = mB M 318 j)
/-- the whole, with a new cell -/
theorem JJ_new {k c : Nat} {M0 : Mm} (h : JJ A M KN KS t T im ig F ek ty nw) (hk : k < 16) (nn : NwC k M M0) (bm : Bd RX TX M0) (xw : XW M0) (xs : XS M0) (xr : XRR KN KS M0) (hc : mB M0 318 k = some c) (oc : okA M0 1 c) (sa : (mF A 768 (342 + 4 * k)) = 0) (sx : (mF M0 64 c) = 0) (hne : ∀ j, j ≠ k → mB M 318 j ≠ some c) : JJ A M0 KN KS t T im ig F ek ty nw := by
  obtain ⟨n0, n1, n2⟩ := nn
  have hW := h.xw
  have n450 : 450 ≤ sN (mS M) := h.bm.2.2.2.1
  have e : ∀ t a, okA M t a → (sTy (mS M0) a = sTy (mS M) a ∧ sLen (mS M0) a = sLen (mS M) a ∧ (∀ f, mF M0 f a = mF M f a) ∧ (∀ f, mG M0 f a = mG M f a) ∧ mA M0 a = mA M a ∧ (a ≠ 318 → mB M0 a = mB M a)) := fun t a ha => n1 a ha.2.1
  have ok0 : ∀ t a, okA M t a → okA M0 t a := fun t a ha => ⟨ha.1, by have := ha.2.1; omega, by rw [(e t a ha).1]; exact ha.2.2⟩
  have t1000 : t + 0 ≤ 1000 := by obtain ⟨_, _, _, _, _, q, -⟩ := h.jl.2.2.2.2.2.2.2; omega
  have ob := h.xs
  obtain ⟨nr, nw', nd, nc, -, -, -, -, r6, -, r316, -⟩ := h.xr
  refine JJ.mk ?_ h.ba bm ?_ ?_ ?_ ?_ h.nw h.n2 ?_ h.uq h.zb h.tr (TS_c h.ts (fun _ _ => rfl) rfl (fun f _ => (e _ _ (xw_ok300 hW)).2.2.1 f) ((e _ _ (xw_ok300 hW)).2.2.2.1 _) (fun a oa => ⟨ok0 _ _ oa, (e _ _ oa).2.1, (n1 (a - 1) (by have := oa.2.1; omega)).1⟩) (fun a _ oa _ _ _ _ _ _ _ => (e _ _ oa).2.2.2.2.1))
  · refine JL0_keep (u := 0) h.jl t1000 h.rw' xw xs xr (fun _ _ _ => rfl) (fun O e => ⟨O, e, Nat.le_refl _, Nat.le_refl _⟩) (fun _ _ => rfl) (fun f _ _ => (e _ _ (xw_ok307 hW)).2.2.1 f) (fun f _ _ => (e _ _ (xw_ok304 hW)).2.2.1 f) (fun p hp => ⟨fun f _ _ => (e _ _ hp).2.2.1 f, (e _ _ (ob.1 p hp).2.1).2.2.2.2.1⟩) (fun a h1 h2 => (n1 a (by omega)).2.2.2.2.1) ((e _ _ (xw_ok306 hW)).2.2.2.2.2 (by decide)) ((e _ _ (xw_ok313 hW)).2.2.2.2.2 (by decide))
  · intro i hi
    rw [(e _ _ (xw_ok305 hW)).2.2.2.2.1]
    exact h.jn i hi
  · obtain ⟨n, nw1, s, τ, hD⟩ := h.jd
    refine ⟨n, nw1, s, τ, JDa_congr (A := A) (M := M) (fun _ _ _ _ => rfl) rfl (Int32.le_refl _) (fun _ _ _ => rfl) ((e _ _ (xw_ok314 hW)).2.2.1 _) ((e _ _ (xw_ok316 hW)).2.2.2.2.2 (by decide)) (fun i d _ hd => ?_) hD⟩
    have od := (rowN_at r316 hd).2
    obtain ⟨-, -, d1, -, d2, -⟩ := ob.2.1 d od
    exact ⟨fun f _ _ => (e _ _ od).2.2.1 f, (e _ _ d1).2.2.2.2.1, (e _ _ d2).2.2.2.2.1⟩
  · obtain ⟨z1, z2, z3, z4, z5, z6, z7, z8, z9, z10, z11⟩ := h.ji
    have y := e _ _ z2
    have y1 := (n1 (ig - 1) (by have := z2.2.1; omega)).1
    exact ⟨by rw [(e _ _ (xw_ok301 hW)).2.2.2.1]; exact z1, ok0 _ _ z2, by rw [y.2.1]; exact z3, z4, by rw [y.2.2.2.2.1]; exact z5, z6, by rw [y1]; exact z7, by rw [y1]; exact z8, by rw [y1]; exact z9, by rw [y1]; exact z10, z11⟩
  · have hf := h.fi
    have oe := hf.oe
    have y := e _ _ oe
    have y1 := (n1 (ek - 1) (by have := oe.2.1; omega)).1
    have y3 := e _ _ (xw_ok301 hW)
    refine FI.mk hf.le hf.ca ?_ ?_ (ok0 _ _ oe) ?_ ?_ ?_ ?_ hf.pl ?_ ?_
    · rw [y3.2.2.1]; exact hf.cm
    · rw [y3.2.2.2.1]; exact hf.ge
    · rw [y.2.1]; exact hf.l1
    · rw [y.2.1]; exact hf.l2
    · rw [y.2.2.2.2.1]; exact hf.nm
    · rw [y.2.2.2.2.1]; exact hf.nu
    · rw [y.2.2.2.2.1]; exact hf.na
    · rw [y1]; exact hf.sp
  · intro j hj
    by_cases q : j = k
    · subst q
      exact Or.inr ⟨c, hc, oc, Or.inl ⟨sa, sx⟩⟩
    · rcases h.cc j hj with ⟨h1, h2⟩ | ⟨cj, h1, h2, h3⟩
      · exact Or.inl ⟨by rw [n2 j q]; exact h1, h2⟩
      · refine Or.inr ⟨cj, by rw [n2 j q]; exact h1, ok0 _ _ h2, ?_⟩
        obtain ⟨c1, c2, c3, c4, c5, c6, c7, c8, c9, c10, c11, c12, c13, c14⟩ := CnO_of ob h2
        rw [(e _ _ h2).2.2.1]
        rcases h3 with h3 | ⟨e1, e2, e3, hd, ft, e5⟩
        · exact Or.inl h3
        · refine Or.inr ⟨?_, ?_, e3, hd, ft, ?_⟩
          · exact CE_congr (fun _ _ _ => rfl) rfl (fun f _ _ => (e _ _ h2).2.2.1 f) (e _ _ c5).2.2.2.2.1 e1
          · exact CP_congr (fun _ _ _ => rfl) (fun f _ _ => (e _ _ c14).2.2.1 f) e2
          · exact CR_congr (fun _ _ => rfl) rfl rfl (fun f _ => (e _ _ c7).2.2.1 f) (e _ _ c10).2.2.2.2.1 (e _ _ c12).2.2.2.2.1 e5
end NewConn
