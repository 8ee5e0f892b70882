/-! ===== part 73: packets go out ===== -/
/-- all of the link level -/
def JL0 (KN KS t T : Nat) (A M : Mm) : Prop := RW A ∧ XW M ∧ XS M ∧ XRR KN KS M ∧ JP A M ∧ JQ T A M ∧ JE A M ∧ JW t T A M
def JL (KN KS t T : Nat) (A M : Mm) : Prop := JL0 KN KS t T A M ∧ Bd RM TM A ∧ Bd RX TX M
/-- what the link level leaves as it was, in the reference, in the class -/
def FrA (A A' : Mm) : Prop := mS A' = mS A ∧ mG A' = mG A ∧ mB A' = mB A ∧ (∀ f a, f < 896 → mF A' f a = mF A f a) ∧ (∀ f a, 1024 ≤ f → f ≠ 1047 → f ≠ 1048 → f ≠ 1049 → mF A' f a = mF A f a) ∧ (∀ a, (a < 331 ∨ 334 < a) → (a < 422 ∨ 438 ≤ a) → mA A' a = mA A a) ∧ (mF A 1049 323) ≤ (mF A' 1049 323)
def FrM (M M' : Mm) : Prop := sN (mS M) ≤ sN (mS M') ∧ (∀ a, a < sN (mS M) → sTy (mS M') a = sTy (mS M) a ∧ sLen (mS M') a = sLen (mS M) a) ∧ (∀ f a, a < sN (mS M) → mG M' f a = mG M f a) ∧
  (∀ a, a < sN (mS M) → a ≠ 306 → a ≠ 313 → mB M' a = mB M a) ∧ (∀ f a, a < sN (mS M) → sTy (mS M) a ≠ 6 → (f < 256 ∨ 320 ≤ f) → (f < 640 ∨ 704 ≤ f) → mF M' f a = mF M f a) ∧
  (∀ a, a < sN (mS M) → a ≠ 308 → (a < 309 ∨ 312 < a) → sTy (mS M) (a - 1) ≠ 6 → mA M' a = mA M a)
section Frames
variable {A A' A'' M M' M'' : Mm}
theorem FrA.rf : FrA A A := ⟨rfl, rfl, rfl, fun _ _ _ => rfl, fun _ _ _ _ _ _ => rfl, fun _ _ _ => rfl, Int32.le_refl _⟩
theorem FrA.tr (h : FrA A A') (g : FrA A' A'') : FrA A A'' := by
  obtain ⟨a1, a2, a3, a4, a5, a6, a7⟩ := h
  obtain ⟨b1, b2, b3, b4, b5, b6, b7⟩ := g
  exact ⟨b1.trans a1, b2.trans a2, b3.trans a3, fun f a h => (b4 f a h).trans (a4 f a h), fun f a h1 h2 h3 h4 => (b5 f a h1 h2 h3 h4).trans (a5 f a h1 h2 h3 h4), fun a h1 h2 => (b6 a h1 h2).trans (a6 a h1 h2), Int32.le_trans a7 b7⟩
theorem FrM.rf : FrM M M := ⟨Nat.le_refl _, fun _ _ => ⟨rfl, rfl⟩, fun _ _ _ => rfl, fun _ _ _ _ => rfl, fun _ _ _ _ _ _ => rfl, fun _ _ _ _ _ => rfl⟩
theorem FrM.tr (h : FrM M M') (g : FrM M' M'') : FrM M M'' := by
  obtain ⟨a1, a2, a3, a4, a5, a6⟩ := h
  obtain ⟨b1, b2, b3, b4, b5, b6⟩ := g
  refine ⟨by omega, fun a h => ⟨(b2 a (by omega)).1.trans (a2 a h).1, (b2 a (by omega)).2.trans (a2 a h).2⟩, fun f a h => (b3 f a (by omega)).trans (a3 f a h), fun a h h1 h2 => (b4 a (by omega) h1 h2).trans (a4 a h h1 h2), fun f a h h1 h2 h3 => (b5 f a (by omega) (by rw [(a2 a h).1]; exact h1) h2 h3).trans (a5 f a h h1 h2 h3), fun a h h1 h2 h3 => (b6 a (by omega) h1 h2 (by rw [(a2 (a - 1) (by omega)).1]; exact h3)).trans (a6 a h h1 h2 h3)⟩
theorem FrS.toA (h : FrS A A') : FrA A A' := by
  obtain ⟨a1, a2, a3, a4, a5⟩ := h
  exact ⟨a1, a2, a3, fun f a h => a4 f a (by omega), fun f a h1 h2 _ _ => a4 f a (by omega), fun a h1 _ => a5 a h1, by rw [a4 1049 323 (by omega)]; exact Int32.le_refl _⟩
theorem FrR.toM {nr : Nat} (hr : rowN M 306 6 nr) (h : FrR M M') : FrM M M' := by
  obtain ⟨a1, a2, a3, a4, a5, a6, a7⟩ := h
  refine ⟨a1, a2, a3, fun a h h1 _ => a4 a h h1, fun f a h h1 h2 h3 => a6 f a h (by omega) (fun i e => h1 (rowN_at hr e).2.2.2), fun a h h1 h2 h3 => a7 a h (fun i p e q => h3 ?_)⟩
  subst q
  exact (rowN_at hr e).2.2.2
theorem FrA_wA (G : Nat → Int32) : FrA A (wA A 331 G) := ⟨rfl, rfl, rfl, fun _ _ _ => rfl, fun _ _ _ _ _ _ => rfl, fun a h1 h2 => mA_wA_ne (by omega), Int32.le_refl _⟩
theorem FrM_wA (G : Nat → Int32) : FrM M (wA M 308 G) := ⟨Nat.le_refl _, fun _ _ => ⟨rfl, rfl⟩, fun _ _ _ => rfl, fun _ _ _ _ => rfl, fun _ _ _ _ _ _ => rfl, fun a h1 h2 h3 h4 => mA_wA_ne h2⟩
theorem JP_congr (h1 : ∀ f, 1029 ≤ f → f ≤ 1034 → (mF A' 1034 323) = (mF A 1034 323) ∧ mF A' f 323 = mF A f 323) (hid : (mF A' 1048 323) = (mF A 1048 323)) (hst : (mF A' 1042 323) = (mF A 1042 323)) (h2 : ∀ f, 257 ≤ f → f ≤ 264 → f ≠ 260 → f ≠ 261 → mF M' f 307 = mF M f 307) (h3 : (mF M' 641 304) = (mF M 641 304)) (h4 : (mF M' 643 304) = (mF M 643 304)) (h : JP A M) : JP A' M' := by
  unfold JP at *
  rw [(h1 1029 (by decide) (by decide)).2, (h1 1031 (by decide) (by decide)).2, (h1 1032 (by decide) (by decide)).2, (h1 1033 (by decide) (by decide)).2, (h1 1034 (by decide) (by decide)).2, (h1 1030 (by decide) (by decide)).2, hid, hst, h2 257 (by decide) (by decide) (by decide) (by decide), h2 258 (by decide) (by decide) (by decide) (by decide), h2 259 (by decide) (by decide) (by decide) (by decide), h2 262 (by decide) (by decide) (by decide) (by decide), h2 263 (by decide) (by decide) (by decide) (by decide), h2 264 (by decide) (by decide) (by decide) (by decide), h3, h4]
  exact h
theorem JE_congr (h1 : ∀ f a, 896 ≤ f → f ≤ 900 → mF A' f a = mF A f a) (h2 : (mF M' 265 307) = (mF M 265 307)) (h3 : ∀ a, 309 ≤ a → a ≤ 312 → mA M' a = mA M a) (h : JE A M) : JE A' M' := by
  unfold JE at *
  simp only [h1 896 _ (by decide) (by decide), h1 897 _ (by decide) (by decide), h1 898 _ (by decide) (by decide), h1 899 _ (by decide) (by decide), h1 900 _ (by decide) (by decide), h2, h3 309 (by decide) (by decide), h3 310 (by decide) (by decide), h3 311 (by decide) (by decide), h3 312 (by decide) (by decide)]
  exact h
/-- the addresses of fixed cells are no packets -/
theorem fixed_ne {a t p : Nat} (ha : okA M t a) (ht : t ≠ 6) (hp : okA M 6 p) : p ≠ a := by
  rintro rfl
  exact ht (ha.2.2.symm.trans hp.2.2)
theorem sTy_of {a t : Nat} (ha : okA M t a) : sTy (mS M) a = t := ha.2.2
/-- after a frame went out, the rest of the link level is as it was -/
theorem JL_sent {KN KS : Nat} (hFS : FrS A A') (hFR : FrR M M') (hRA : RW A) (hW : XW M) (hS : XS M) (hX : XRR KN KS M) (hP : JP A M) (hE : JE A M) : RW A' ∧ JP A' M' ∧ JE A' M' ∧ (∀ n O nw s o, JWa n O nw s o A M → JWa n O nw s o A' M') := by
  obtain ⟨a1, a2, a3, a4, a5⟩ := hFS
  obtain ⟨b1, b2, b3, b4, b5, b6, b7⟩ := hFR
  obtain ⟨nr, nw, nd, nc, -, -, -, -, r1, r2, -, -, hd, -, -, -, -, k5⟩ := hX
  have nofix : ∀ t a, okA M t a → t ≠ 6 → ∀ i, mB M 306 i ≠ some a := fun t a ha ht i e => ht (ha.2.2.symm.trans (rowN_at r1 e).2.2.2)
  have norow : ∀ t a, okA M t (a - 1) → 1 ≤ a → t ≠ 6 → ∀ i p, mB M 306 i = some p → a ≠ p + 1 := by
    intro t a ha h1 ht i p e q
    subst q
    exact ht (ha.2.2.symm.trans (rowN_at r1 e).2.2.2)
  refine ⟨RW_of a1 a2 a3 hRA, JP_congr (fun f h1 h2 => ⟨a4 _ _ (by omega), a4 _ _ (by omega)⟩) (a4 _ _ (by omega)) (a4 _ _ (by omega)) (fun f h1 h2 h3 h4 => b6 _ _ (by omega) (by omega) (nofix 4 307 (xw_ok307 hW) (by decide))) (b6 _ _ (by omega) (by omega) (nofix 10 304 (xw_ok304 hW) (by decide))) (b6 _ _ (by omega) (by omega) (nofix 10 304 (xw_ok304 hW) (by decide))) hP, JE_congr (fun f a h1 h2 => a4 _ _ (by omega)) (b6 _ _ (by omega) (by omega) (nofix 4 307 (xw_ok307 hW) (by decide))) (fun a h1 h2 => b7 a (by omega) ?_) hE, ?_⟩
  · have : a = 309 ∨ a = 310 ∨ a = 311 ∨ a = 312 := by omega
    rcases this with rfl | rfl | rfl | rfl
    · exact norow 100 309 (xw_ok308 hW) (by decide) (by decide)
    · exact norow 101 310 (xw_ok309 hW) (by decide) (by decide)
    · exact norow 101 311 (xw_ok310 hW) (by decide) (by decide)
    · exact norow 101 312 (xw_ok311 hW) (by decide) (by decide)
  · intro n O nw' s o hJ
    refine JWa_congr (fun f a h1 h2 => a4 _ _ (by omega)) (a4 _ _ (by omega)) (a4 _ _ (by omega)) (fun a h1 h2 => a5 a (by omega)) (b6 _ _ (by omega) (by omega) (nofix 4 307 (xw_ok307 hW) (by decide))) (b4 313 (by omega) (by decide)) (fun i q f hq h1 h2 => b6 _ _ (rowN_at r2 hq).2.2.1 (by omega) (fun j e => hd j i q e hq)) (fun i q hq => b7 _ ((hS.1 q (rowN_at r2 hq).2).2.1.2.1) (fun j p e q2 => ?_)) hJ
    have : q = p := by omega
    subst this
    exact hd j i _ e hq
end Frames
