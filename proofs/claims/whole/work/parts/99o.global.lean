/-! ===== part 99o: all connections, in both ===== -/
/-- a connection's cell, or none -/
def CnZ (M : Mm) (c : Nat) : Prop := CnO M c ∨ c = 0
section Global
variable {A M A' M' : Mm}
theorem nec {c t x : Nat} (h : CnZ M c) (ha : okA M t x) : (t ≠ 1 → x ≠ c) ∧ (t ≠ 0 → x ≠ c + 2) ∧ (t ≠ 5 → x ≠ c + 5) ∧ (t ≠ 100 → x ≠ c + 1 ∧ x ≠ c + 3) ∧ (t ≠ 101 → x ≠ c + 4) := by
  rcases h with hC | h0
  · obtain ⟨c1, c2, c3, c4, c5, c6, c7, c8, c9, c10, c11, c12, c13, c14⟩ := hC
    exact ⟨fun q => ok_ne ha c1 q, fun q => ok_ne ha c7 q, fun q => ok_ne ha c14 q, fun q => ⟨ok_ne ha c5 q, ok_ne ha c10 q⟩, fun q => ok_ne ha c12 q⟩
  · have := ha.1
    subst h0
    exact ⟨fun _ => by omega, fun _ => by omega, fun _ => by omega, fun _ => ⟨by omega, by omega⟩, fun _ => by omega⟩
/-- cells of the class that stand alone -/
theorem nxw {t x : Nat} (hW : XW M) (ha : okA M t x) (h : t = 0 ∨ t = 1 ∨ t = 2 ∨ t = 5) : x ≠ 304 ∧ x ≠ 307 ∧ x ≠ 308 ∧ (x < 309 ∨ 312 < x) ∧ x ≠ 319 ∧ x ≠ 320 := by
  have a1 := ok_ne ha (xw_ok304 hW) (by omega)
  have a2 := ok_ne ha (xw_ok307 hW) (by omega)
  have a3 := ok_ne ha (xw_ok308 hW) (by omega)
  have a4 := ok_ne ha (xw_ok309 hW) (by omega)
  have a5 := ok_ne ha (xw_ok310 hW) (by omega)
  have a6 := ok_ne ha (xw_ok311 hW) (by omega)
  have a7 := ok_ne ha (xw_ok312 hW) (by omega)
  have a8 := ok_ne ha (xw_ok319 hW) (by omega)
  have a9 := ok_ne ha (xw_ok320 hW) (by omega)
  omega
theorem fwm_conn {c cj : Nat} (hW : XW M) (hZ : CnZ M c) (hj : CnO M cj) (hne : cj ≠ c) (fM : FWM c M M') : (∀ f o, o = cj ∨ o = cj + 2 ∨ o = cj + 5 → f < 256 ∨ (320 ≤ f ∧ f < 448) → mF M' f o = mF M f o) ∧ mA M' (cj + 1) = mA M (cj + 1) ∧ mA M' (cj + 3) = mA M (cj + 3) ∧ mA M' (cj + 4) = mA M (cj + 4) := by
  obtain ⟨c1, c2, c3, c4, c5, c6, c7, c8, c9, c10, c11, c12, c13, c14⟩ := hj
  have n1 := nec hZ c1
  have n7 := nec hZ c7
  have n14 := nec hZ c14
  have n5 := nec hZ c5
  have n10 := nec hZ c10
  have n12 := nec hZ c12
  have x1 := nxw hW c1 (by omega)
  have x7 := nxw hW c7 (by omega)
  have x14 := nxw hW c14 (by omega)
  have h5 := n100 hW c5
  have h10 := n100 hW c10
  have b5 := ok_ne c5 (xw_ok305 hW) (by decide)
  have b10 := ok_ne c10 (xw_ok305 hW) (by decide)
  have t1 : sTy (mS M) cj = 1 := c1.2.2
  have t7 : sTy (mS M) (cj + 2) = 0 := c7.2.2
  have t14 : sTy (mS M) (cj + 5) = 5 := c14.2.2
  have t10 : sTy (mS M) (cj + 3) = 100 := c10.2.2
  have e12 := ok_ne c12 (xw_ok320 hW) (by decide)
  have e12' := ok_ne c12 (xw_ok321 hW) (by decide)
  have e308 := ok_ne c12 (xw_ok308 hW) (by decide)
  refine ⟨fun f o ho hf => ?_, ?_, ?_, ?_⟩
  · have hlt : o < sN (mS M) := by
      rcases ho with e | e | e
      · rw [e]; exact c1.2.1
      · rw [e]; exact c7.2.1
      · rw [e]; exact c14.2.1
    refine fM.2.2.2.2.1 f o hlt ?_
    have ht : sTy (mS M) o ≠ 6 := by
      rcases ho with e | e | e
      · rw [e, t1]; decide
      · rw [e, t7]; decide
      · rw [e, t14]; decide
    have hne' : o ≠ c ∧ o ≠ c + 2 ∧ o ≠ c + 5 := by
      rcases ho with e | e | e
      · rw [e]; exact ⟨hne, n1.2.1 (by decide), n1.2.2.1 (by decide)⟩
      · rw [e]; exact ⟨n7.1 (by decide), by omega, n7.2.2.1 (by decide)⟩
      · rw [e]; exact ⟨n14.1 (by decide), n14.2.1 (by decide), by omega⟩
    unfold PWx PCx PLx
    omega
  · refine fM.2.2.2.2.2 (cj + 1) c5.2.1 ?_
    have p1 := n1.1
    have p2 := n1.2.1 (by decide)
    have p3 := n5.2.2.2.2 (by decide)
    rw [show cj + 1 - 1 = cj by omega, t1]
    unfold QWx QCx QLx
    omega
  · refine fM.2.2.2.2.2 (cj + 3) c10.2.1 ?_
    have p1 := n7.1 (by decide)
    have p3 := n10.2.2.2.2 (by decide)
    rw [show cj + 3 - 1 = cj + 2 by omega, t7]
    unfold QWx QCx QLx
    omega
  · refine fM.2.2.2.2.2 (cj + 4) c12.2.1 ?_
    have p1 := n10.1 (by decide)
    have p3 := n10.2.1 (by decide)
    have p4 := n12.2.2.2.1 (by decide)
    have p5 := ok_ne c10 (xw_ok304 hW) (by decide)
    rw [show cj + 4 - 1 = cj + 3 by omega, t10]
    unfold QWx QCx QLx
    omega
/-- datagrams under work -/
theorem JD_w {k c KN KS : Nat} (hW : XW M) (hS : XS M) (hX : XRR KN KS M) (hZ : CnZ M c) (hk : k ≤ 16) (fA : FWA k A A') (fM : FWM c M M') (h : JD A M) : JD A' M' := by
  obtain ⟨n, nw, s, τ, h⟩ := h
  obtain ⟨nr, nw', nd, nc, -, -, -, -, -, -, r316, -⟩ := hX
  refine ⟨n, nw, s, τ, JDa_congr (A := A) (M := M) (fun f a h1 h2 => fA.2.2.2.1 f a (by unfold PWa PCa PL; omega)) (fA.2.2.2.1 _ _ (by unfold PWa PCa PL; omega)) fA.2.2.2.2.2 (fun a h1 h2 => fA.2.2.2.2.1 a (by unfold QWa QCa QL; omega)) ?_ ?_ ?_ h⟩
  · have o := xw_ok314 hW
    have n1 := nec hZ o
    have q1 := n1.1 (by decide)
    have q2 := n1.2.1 (by decide)
    have q3 := n1.2.2.1 (by decide)
    refine fM.2.2.2.2.1 _ _ o.2.1 ?_
    rw [o.2.2]
    unfold PWx PCx PLx
    omega
  · exact fM.2.2.2.1 316 (xw_ok316 hW).2.1 (by unfold BLx; omega)
  · intro i d hi hd
    have od := (rowN_at r316 hd).2
    obtain ⟨-, -, d1, -, d2, -⟩ := hS.2.1 d od
    have n1 := nec hZ od
    have n2 := nec hZ d1
    have n3 := nec hZ d2
    have x1 := nxw hW od (by omega)
    have td : sTy (mS M) d = 2 := od.2.2
    have td1 : sTy (mS M) (d + 1) = 100 := d1.2.2
    have h5 := n100 hW d1
    have b5 := ok_ne d1 (xw_ok305 hW) (by decide)
    have b4 := ok_ne d1 (xw_ok304 hW) (by decide)
    have e12 := ok_ne d2 (xw_ok320 hW) (by decide)
    have e12' := ok_ne d2 (xw_ok321 hW) (by decide)
    have e308 := ok_ne d2 (xw_ok308 hW) (by decide)
    have p1 := n1.1 (by decide)
    have p2 := n1.2.1 (by decide)
    have p3 := n1.2.2.1 (by decide)
    have p4 := n1.2.2.2.1 (by decide)
    have p5 := n2.2.2.2.2 (by decide)
    have p6 := n2.1 (by decide)
    have p7 := n2.2.1 (by decide)
    have p8 := n3.2.2.2.1 (by decide)
    refine ⟨fun f h1 h2 => fM.2.2.2.2.1 f d od.2.1 ?_, fM.2.2.2.2.2 (d + 1) d1.2.1 ?_, fM.2.2.2.2.2 (d + 2) d2.2.1 ?_⟩
    · rw [td]
      unfold PWx PCx PLx
      omega
    · rw [show d + 1 - 1 = d by omega, td]
      unfold QWx QCx QLx
      omega
    · rw [show d + 2 - 1 = d + 1 by omega, td1]
      unfold QWx QCx QLx
      omega
/-- one of the 16 connections, in both -/
def CK (A M : Mm) (nw t im k : Nat) : Prop := (mB M 318 k = none ∧ (mF A 768 (342 + 4 * k)) = 0) ∨ ∃ c, mB M 318 k = some c ∧ okA M 1 c ∧ (((mF A 768 (342 + 4 * k)) = 0 ∧ (mF M 64 c) = 0) ∨ CL k c nw t im A M)
theorem CS_congr {k nw : Nat} {b0 : Int32} {v : Nat → Nat} (FA' : ∀ g, ¬ (g < 768 ∨ 832 ≤ g) → mF A' g (342 + 4 * k) = mF A g (342 + 4 * k)) (hS : CS A k nw b0 v) : CS A' k nw b0 v := by
  refine CS.mk ?_ ?_ ?_ ?_ ?_ ?_ ?_ ?_ ?_
  · exact (FA' 768 (by omega)).trans hS.st
  · exact hS.st1
  · rw [FA' 771 (by omega), FA' 786 (by omega)]; exact hS.s1
  · exact hS.sN1
  · exact hS.s27
  · exact hS.s358
  · exact hS.s46
  · rw [FA' 812 (by omega)]; exact hS.la
  · rw [FA' 813 (by omega)]; exact hS.si
/-- the others, under work on one -/
theorem CK_w {k c j nw t u im KN KS : Nat} (hW : XW M) (hS : XS M) (hX : XRR KN KS M) (hZ : CnZ M c) (hj : j < 16) (hjk : j ≠ k) (hc : ∀ cj, mB M 318 j = some cj → cj ≠ c) (fA : FWA k A A') (fM : FWM c M M') (h : CK A M nw t im j) : CK A' M' nw (t + u) im j := by
  have FA' : ∀ g, ¬ (g < 768 ∨ 832 ≤ g) → mF A' g (342 + 4 * j) = mF A g (342 + 4 * j) := fun g hg => fA.2.2.2.1 g _ (by unfold PWa PCa PL; omega)
  have AA : ∀ a, 343 + 4 * j ≤ a → a ≤ 345 + 4 * j → mA A' a = mA A a := fun a h1 h2 => fA.2.2.2.2.1 a (by unfold QWa QCa QL; omega)
  have e318 : mB M' 318 = mB M 318 := fM.2.2.2.1 318 (xw_ok318 hW).2.1 (by unfold BLx; omega)
  unfold CK
  rw [e318, FA' 768 (by omega)]
  rcases h with ⟨h1, h2⟩ | ⟨cj, h1, h2, h3⟩
  · exact Or.inl ⟨h1, h2⟩
  · have hC := CnO_of hS h2
    obtain ⟨z1, z2, z3, z4⟩ := fwm_conn hW hZ hC (hc cj h1) fM
    refine Or.inr ⟨cj, h1, fM.ok h2, ?_⟩
    rw [z1 64 cj (Or.inl rfl) (by omega)]
    rcases h3 with h3 | ⟨e1, e2, ⟨b0, v, e3, e4⟩, hd, ft, e5⟩
    · exact Or.inl h3
    · refine Or.inr ⟨?_, ?_, ⟨b0, v, ?_, ?_⟩, hd, ft, ?_⟩
      · exact CE_congr (fun f h1 h2 => FA' f (by omega)) (AA _ (by omega) (by omega)) (fun f h1 h2 => z1 f _ (Or.inl rfl) (by omega)) z2 e1
      · exact CP_congr (fun f h1 h2 => FA' f (by omega)) (fun f h1 h2 => z1 f _ (Or.inr (Or.inr rfl)) (by omega)) e2
      · exact CI_mono (CI_congr (fun f h1 h2 => FA' f (by omega)) e3)
      · exact CS_congr FA' e4
      · exact CR_congr (fun f hf => FA' f (by omega)) (AA _ (by omega) (by omega)) (AA _ (by omega) (by omega)) (fun f hf => z1 f _ (Or.inr (Or.inl rfl)) (by omega)) z3 z4 e5
end Global
