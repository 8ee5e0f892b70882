/-! ===== part 99p: the whole of both; the connection of a segment ===== -/
/-- what the network does not change: ty bytes in the tray, an image of im bytes, both booted -/
def TS (ty im ig ek : Nat) (A M : Mm) : Prop := (ty ≤ 65540) ∧ (mF A 1025 323 = nI ty) ∧ (mF A 1027 323 = nI im) ∧ (mF A 1028 323 = 1) ∧ (mF M 711 300 = nI ty) ∧ (mF M 712 300 = 1) ∧ (∃ tr, mG M 710 300 = some tr ∧ okA M 100 tr ∧ ty ≤ sLen (mS M) tr ∧ 80 ≤ sLen (mS M) tr ∧ sLen (mS M) tr ≤ 65540 ∧ (∀ j, j < ty → mA A 324 j = mA M tr j) ∧ tr ≠ ig ∧ tr ≠ ek ∧ tr ≠ 308 ∧ sTy (mS M) (tr - 1) ≠ 6 ∧ sTy (mS M) (tr - 1) ≠ 2 ∧ sTy (mS M) (tr - 1) ≠ 1 ∧ sTy (mS M) (tr - 1) ≠ 0 ∧ tr ≠ 320 ∧ tr ≠ 321) ∧ (ig ≠ ek) ∧ True
theorem TS.y1 {ty im ig ek : Nat} {A M : Mm} (h : TS ty im ig ek A M) : ty ≤ 65540 := h.1
theorem TS.ta {ty im ig ek : Nat} {A M : Mm} (h : TS ty im ig ek A M) : mF A 1025 323 = nI ty := h.2.1
theorem TS.sz {ty im ig ek : Nat} {A M : Mm} (h : TS ty im ig ek A M) : mF A 1027 323 = nI im := h.2.2.1
theorem TS.bo {ty im ig ek : Nat} {A M : Mm} (h : TS ty im ig ek A M) : mF A 1028 323 = 1 := h.2.2.2.1
theorem TS.tm {ty im ig ek : Nat} {A M : Mm} (h : TS ty im ig ek A M) : mF M 711 300 = nI ty := h.2.2.2.2.1
theorem TS.bx {ty im ig ek : Nat} {A M : Mm} (h : TS ty im ig ek A M) : mF M 712 300 = 1 := h.2.2.2.2.2.1
theorem TS.tg {ty im ig ek : Nat} {A M : Mm} (h : TS ty im ig ek A M) : ∃ tr, mG M 710 300 = some tr ∧ okA M 100 tr ∧ ty ≤ sLen (mS M) tr ∧ 80 ≤ sLen (mS M) tr ∧ sLen (mS M) tr ≤ 65540 ∧ (∀ j, j < ty → mA A 324 j = mA M tr j) ∧ tr ≠ ig ∧ tr ≠ ek ∧ tr ≠ 308 ∧ sTy (mS M) (tr - 1) ≠ 6 ∧ sTy (mS M) (tr - 1) ≠ 2 ∧ sTy (mS M) (tr - 1) ≠ 1 ∧ sTy (mS M) (tr - 1) ≠ 0 ∧ tr ≠ 320 ∧ tr ≠ 321 := h.2.2.2.2.2.2.1
theorem TS.ie {ty im ig ek : Nat} {A M : Mm} (h : TS ty im ig ek A M) : ig ≠ ek := h.2.2.2.2.2.2.2.1
theorem TS.mk {ty im ig ek : Nat} {A M : Mm} (y1_ : ty ≤ 65540) (ta_ : mF A 1025 323 = nI ty) (sz_ : mF A 1027 323 = nI im) (bo_ : mF A 1028 323 = 1) (tm_ : mF M 711 300 = nI ty) (bx_ : mF M 712 300 = 1) (tg_ : ∃ tr, mG M 710 300 = some tr ∧ okA M 100 tr ∧ ty ≤ sLen (mS M) tr ∧ 80 ≤ sLen (mS M) tr ∧ sLen (mS M) tr ≤ 65540 ∧ (∀ j, j < ty → mA A 324 j = mA M tr j) ∧ tr ≠ ig ∧ tr ≠ ek ∧ tr ≠ 308 ∧ sTy (mS M) (tr - 1) ≠ 6 ∧ sTy (mS M) (tr - 1) ≠ 2 ∧ sTy (mS M) (tr - 1) ≠ 1 ∧ sTy (mS M) (tr - 1) ≠ 0 ∧ tr ≠ 320 ∧ tr ≠ 321) (ie_ : ig ≠ ek) : TS ty im ig ek A M := ⟨y1_, ta_, sz_, bo_, tm_, bx_, tg_, ie_, trivial⟩
theorem TS_c {ty im ig ek : Nat} {A M A' M' : Mm} (h : TS ty im ig ek A M) (hA : ∀ f, f = 1025 ∨ f = 1027 ∨ f = 1028 → mF A' f 323 = mF A f 323) (h24 : mA A' 324 = mA A 324) (hM : ∀ f, f = 711 ∨ f = 712 → mF M' f 300 = mF M f 300) (hg : mG M' 710 300 = mG M 710 300) (ok : ∀ a, okA M 100 a → okA M' 100 a ∧ sLen (mS M') a = sLen (mS M) a ∧ sTy (mS M') (a - 1) = sTy (mS M) (a - 1)) (ha : ∀ a, mG M 710 300 = some a → okA M 100 a → a ≠ 308 → sTy (mS M) (a - 1) ≠ 6 → sTy (mS M) (a - 1) ≠ 2 → sTy (mS M) (a - 1) ≠ 1 → sTy (mS M) (a - 1) ≠ 0 → a ≠ 320 → a ≠ 321 → mA M' a = mA M a) : TS ty im ig ek A' M' := by
  refine TS.mk h.y1 ((hA _ (by omega)).trans h.ta) ((hA _ (by omega)).trans h.sz) ((hA _ (by omega)).trans h.bo) ((hM _ (by omega)).trans h.tm) ((hM _ (by omega)).trans h.bx) ?_ h.ie
  obtain ⟨tr, t1, t2, t3, t4, t5, t6, t7, t8, t9, t10, t11, t12, t13, t14, t15⟩ := h.tg
  obtain ⟨k1, k2, k3⟩ := ok tr t2
  refine ⟨tr, hg.trans t1, k1, by rw [k2]; exact t3, by rw [k2]; exact t4, by rw [k2]; exact t5, ?_, t7, t8, t9, by rw [k3]; exact t10, by rw [k3]; exact t11, by rw [k3]; exact t12, by rw [k3]; exact t13, t14, t15⟩
  rw [h24, ha tr t1 t2 t9 t10 t11 t12 t13 t14 t15]
  exact t6
/-- both systems, at time nw, in the call t, with T frames sent -/
def JJ (A M : Mm) (KN KS t T im ig F ek ty nw : Nat) : Prop := (JL0 KN KS t T A M) ∧ (Bd RM TM A) ∧ (Bd RX TX M) ∧ (JN A M) ∧ (JD A M) ∧ (JI im ig A M) ∧ (FI F ek im A M) ∧ ((mF A 1034 323) = nI nw) ∧ (nw ≤ 2000000000) ∧ (∀ k, k < 16 → CK A M nw t im k) ∧ (∀ i j, i < 16 → j < 16 → (mF A 768 (342 + 4 * i)) ≠ 0 → (mF A 768 (342 + 4 * j)) ≠ 0 → (mF A 769 (342 + 4 * i)) = (mF A 769 (342 + 4 * j)) → (mF A 770 (342 + 4 * i)) = (mF A 770 (342 + 4 * j)) → i = j) ∧ (mA A 330 5 = (mF A 1036 323)) ∧ (∀ k, k < 16 → (mF A 768 (342 + 4 * k)) ≠ 0 → ∃ x, x ≤ 8 ∧ (mF A 791 (342 + 4 * k)) = nI x) ∧ (TS ty im ig ek A M) ∧ True
theorem JJ.jl {A M : Mm} {KN KS t T im ig F ek ty nw : Nat} (h : JJ A M KN KS t T im ig F ek ty nw) : JL0 KN KS t T A M := h.1
theorem JJ.ba {A M : Mm} {KN KS t T im ig F ek ty nw : Nat} (h : JJ A M KN KS t T im ig F ek ty nw) : Bd RM TM A := h.2.1
theorem JJ.bm {A M : Mm} {KN KS t T im ig F ek ty nw : Nat} (h : JJ A M KN KS t T im ig F ek ty nw) : Bd RX TX M := h.2.2.1
theorem JJ.jn {A M : Mm} {KN KS t T im ig F ek ty nw : Nat} (h : JJ A M KN KS t T im ig F ek ty nw) : JN A M := h.2.2.2.1
theorem JJ.jd {A M : Mm} {KN KS t T im ig F ek ty nw : Nat} (h : JJ A M KN KS t T im ig F ek ty nw) : JD A M := h.2.2.2.2.1
theorem JJ.ji {A M : Mm} {KN KS t T im ig F ek ty nw : Nat} (h : JJ A M KN KS t T im ig F ek ty nw) : JI im ig A M := h.2.2.2.2.2.1
theorem JJ.fi {A M : Mm} {KN KS t T im ig F ek ty nw : Nat} (h : JJ A M KN KS t T im ig F ek ty nw) : FI F ek im A M := h.2.2.2.2.2.2.1
theorem JJ.nw {A M : Mm} {KN KS t T im ig F ek ty nw : Nat} (h : JJ A M KN KS t T im ig F ek ty nw) : (mF A 1034 323) = nI nw := h.2.2.2.2.2.2.2.1
theorem JJ.n2 {A M : Mm} {KN KS t T im ig F ek ty nw : Nat} (h : JJ A M KN KS t T im ig F ek ty nw) : nw ≤ 2000000000 := h.2.2.2.2.2.2.2.2.1
theorem JJ.cc {A M : Mm} {KN KS t T im ig F ek ty nw : Nat} (h : JJ A M KN KS t T im ig F ek ty nw) : ∀ k, k < 16 → CK A M nw t im k := h.2.2.2.2.2.2.2.2.2.1
theorem JJ.uq {A M : Mm} {KN KS t T im ig F ek ty nw : Nat} (h : JJ A M KN KS t T im ig F ek ty nw) : ∀ i j, i < 16 → j < 16 → (mF A 768 (342 + 4 * i)) ≠ 0 → (mF A 768 (342 + 4 * j)) ≠ 0 → (mF A 769 (342 + 4 * i)) = (mF A 769 (342 + 4 * j)) → (mF A 770 (342 + 4 * i)) = (mF A 770 (342 + 4 * j)) → i = j := h.2.2.2.2.2.2.2.2.2.2.1
theorem JJ.zb {A M : Mm} {KN KS t T im ig F ek ty nw : Nat} (h : JJ A M KN KS t T im ig F ek ty nw) : mA A 330 5 = (mF A 1036 323) := h.2.2.2.2.2.2.2.2.2.2.2.1
theorem JJ.tr {A M : Mm} {KN KS t T im ig F ek ty nw : Nat} (h : JJ A M KN KS t T im ig F ek ty nw) : ∀ k, k < 16 → (mF A 768 (342 + 4 * k)) ≠ 0 → ∃ x, x ≤ 8 ∧ (mF A 791 (342 + 4 * k)) = nI x := h.2.2.2.2.2.2.2.2.2.2.2.2.1
theorem JJ.ts {A M : Mm} {KN KS t T im ig F ek ty nw : Nat} (h : JJ A M KN KS t T im ig F ek ty nw) : TS ty im ig ek A M := h.2.2.2.2.2.2.2.2.2.2.2.2.2.1
theorem JJ.mk {A M : Mm} {KN KS t T im ig F ek ty nw : Nat} (jl_ : JL0 KN KS t T A M) (ba_ : Bd RM TM A) (bm_ : Bd RX TX M) (jn_ : JN A M) (jd_ : JD A M) (ji_ : JI im ig A M) (fi_ : FI F ek im A M) (nw_ : (mF A 1034 323) = nI nw) (n2_ : nw ≤ 2000000000) (cc_ : ∀ k, k < 16 → CK A M nw t im k) (uq_ : ∀ i j, i < 16 → j < 16 → (mF A 768 (342 + 4 * i)) ≠ 0 → (mF A 768 (342 + 4 * j)) ≠ 0 → (mF A 769 (342 + 4 * i)) = (mF A 769 (342 + 4 * j)) → (mF A 770 (342 + 4 * i)) = (mF A 770 (342 + 4 * j)) → i = j) (zb_ : mA A 330 5 = (mF A 1036 323)) (tr_ : ∀ k, k < 16 → (mF A 768 (342 + 4 * k)) ≠ 0 → ∃ x, x ≤ 8 ∧ (mF A 791 (342 + 4 * k)) = nI x) (ts_ : TS ty im ig ek A M) : JJ A M KN KS t T im ig F ek ty nw := ⟨jl_, ba_, bm_, jn_, jd_, ji_, fi_, nw_, n2_, cc_, uq_, zb_, tr_, ts_, trivial⟩
section Find
variable {A M A' M' : Mm} {KN KS t T im ig F ek ty nw : Nat}
theorem JJ.rw' (h : JJ A M KN KS t T im ig F ek ty nw) : RW A := h.jl.1
theorem JJ.xw (h : JJ A M KN KS t T im ig F ek ty nw) : XW M := h.jl.2.1
theorem JJ.xs (h : JJ A M KN KS t T im ig F ek ty nw) : XS M := h.jl.2.2.1
theorem JJ.xr (h : JJ A M KN KS t T im ig F ek ty nw) : XRR KN KS M := h.jl.2.2.2.1
theorem JJ.ok (h : JJ A M KN KS t T im ig F ek ty nw) {k c : Nat} (hc : mB M 318 k = some c) : okA M 1 c := by
  obtain ⟨_, _, _, _, -, -, -, -, -, -, -, r, -⟩ := h.xr
  exact (rowN_at r hc).2
theorem JJ.inj (h : JJ A M KN KS t T im ig F ek ty nw) {i j c : Nat} (h1 : mB M 318 i = some c) (h2 : mB M 318 j = some c) : i = j := by
  obtain ⟨_, _, _, _, -, -, -, -, -, -, -, r, -⟩ := h.xr
  exact r.2.2 i j c h1 h2
theorem JJ.tk (h : JJ A M KN KS t T im ig F ek ty nw) {k c : Nat} (hk : k < 16) (hc : mB M 318 k = some c) (hs : (mF A 768 (342 + 4 * k)) ≠ 0) : ∃ hd ft b0 v, TK A M KN KS t T im ig k c nw hd ft b0 v := by
  rcases h.cc k hk with ⟨e1, e2⟩ | ⟨c', e1, e2, e3⟩
  · exact absurd e2 hs
  · rw [hc] at e1
    have e1 := Option.some.inj e1
    subst e1
    rcases e3 with ⟨e3, -⟩ | ⟨f1, f2, ⟨b0, v, f3, f4⟩, hd, ft, f5⟩
    · exact absurd e3 hs
    · exact ⟨hd, ft, b0, v, TK.mk h.jl h.ba h.bm h.jn h.ji (CnO_of h.xs e2) f1 f2 f3 f4 f5 h.nw h.n2⟩
theorem FI_z {k c : Nat} (hf : FI F ek im A M) (hZ : CnZ M c) (hW : XW M) (hk : k ≤ 16) (fA : FWA k A A') (fM : FWM c M M') : FI F ek im A' M' := by
  obtain ⟨s1, s2, s3, s4, s5, s6, s7⟩ := hf.sp
  have oe := hf.oe
  have lt := oe.2.1
  obtain ⟨ty, ln⟩ := fM.2.1 ek lt
  have ty1 := (fM.2.1 (ek - 1) (by omega)).1
  have e300 := oe.1
  have e : mA M' ek = mA M ek := by
    refine fM.2.2.2.2.2 ek lt ?_
    have q := n100 hW oe
    have q12 : ek ≠ c + 1 ∧ ek ≠ c + 3 := by
      rcases hZ with hC | h0
      · exact ⟨fun e => s4 (by rw [e]; exact hC.1.2.2), fun e => s5 (by rw [e]; exact hC.2.2.2.2.2.2.1.2.2)⟩
      · omega
    have q3 := (nec hZ oe).2.2.2.2 (by decide)
    have q4 := ok_ne oe (xw_ok305 hW) (by decide)
    unfold QWx QCx QLx
    omega
  have a : ∀ x, x < 330 → mA A' x = mA A x := fun x hx => fA.2.2.2.2.1 x (by unfold QWa QCa QL; omega)
  have o301 := xw_ok301 hW
  have p301 : ∀ f, 512 ≤ f → f < 640 → mF M' f 301 = mF M f 301 := fun f h1 h2 => by
    refine fM.2.2.2.2.1 f 301 o301.2.1 ?_
    have n := nec hZ o301
    have q1 := n.1 (by decide)
    have q2 := n.2.1 (by decide)
    have q3 := n.2.2.1 (by decide)
    have q4 : sTy (mS M) 301 ≠ 6 := by rw [o301.2.2]; decide
    unfold PWx PCx PLx
    omega
  refine FI.mk hf.le ?_ ?_ ?_ ?_ ?_ ?_ ?_ ?_ ?_ ?_ ?_
  · rw [fA.2.2.2.1 _ _ (by unfold PWa PCa PL; omega)]; exact hf.ca
  · rw [p301 _ (by decide) (by decide)]; exact hf.cm
  · rw [fM.2.2.1 _ _ o301.2.1 (fun e => e)]; exact hf.ge
  · exact fM.ok oe
  · rw [ln]; exact hf.l1
  · rw [ln]; exact hf.l2
  · rw [e, a 326 (by decide)]; exact hf.nm
  · rw [e, a 327 (by decide), a 328 (by decide), a 329 (by decide)]; exact hf.nu
  · rw [a 327 (by decide), a 328 (by decide)]; exact hf.pl
  · rw [e]; exact hf.na
  · rw [ty1]; exact hf.sp
theorem TS_z {k c : Nat} (hf : TS ty im ig ek A M) (hZ : CnZ M c) (hW : XW M) (hk : k ≤ 16) (fA : FWA k A A') (fM : FWM c M M') : TS ty im ig ek A' M' := by
  have o300 := xw_ok300 hW
  refine TS_c hf (fun f hf => fA.2.2.2.1 f 323 (by unfold PWa PCa PL; omega)) (fA.2.2.2.2.1 324 (by unfold QWa QCa QL; omega)) (fun f hf => ?_) (fM.2.2.1 _ _ o300.2.1 (fun e => e)) (fun a oa => ?_) (fun a _ oe s1 s2 s3 s4 s5 s6 s7 => ?_)
  · refine fM.2.2.2.2.1 f 300 o300.2.1 ?_
    have n := nec hZ o300
    have q1 := n.1 (by decide)
    have q2 := n.2.1 (by decide)
    have q3 := n.2.2.1 (by decide)
    have q4 : sTy (mS M) 300 ≠ 6 := by rw [o300.2.2]; decide
    unfold PWx PCx PLx
    omega
  · have lt := oa.2.1
    exact ⟨fM.ok oa, (fM.2.1 a lt).2, (fM.2.1 (a - 1) (by omega)).1⟩
  · refine fM.2.2.2.2.2 a oe.2.1 ?_
    have q := n100 hW oe
    have e300 := oe.1
    have q12 : a ≠ c + 1 ∧ a ≠ c + 3 := by
      rcases hZ with hC | h0
      · exact ⟨fun e => s4 (by rw [e]; exact hC.1.2.2), fun e => s5 (by rw [e]; exact hC.2.2.2.2.2.2.1.2.2)⟩
      · omega
    have q3 := (nec hZ oe).2.2.2.2 (by decide)
    have q4 := ok_ne oe (xw_ok305 hW) (by decide)
    unfold QWx QCx QLx
    omega
/-- work on one connection keeps the whole -/
theorem JJ_put {u T' k c : Nat} (h : JJ A M KN KS t T im ig F ek ty nw) (hk : k < 16) (hc : mB M 318 k = some c) (hs : (mF A 768 (342 + 4 * k)) ≠ 0) (fA : FWA k A A') (fM : FWM c M M') (zq : Zq A A') (tl : TL A' M' KN KS (t + u) T' im ig k c nw) : JJ A' M' KN KS (t + u) T' im ig F ek ty nw := by
  have hW := h.xw
  have oc := h.ok hc
  have hZ : CnZ M c := Or.inl (CnO_of h.xs oc)
  have e318 : mB M' 318 = mB M 318 := fM.2.2.2.1 318 (xw_ok318 hW).2.1 (by unfold BLx; omega)
  have b : JL0 KN KS (t + u) T' A' M' ∧ Bd RM TM A' ∧ Bd RX TX M' ∧ JN A' M' ∧ JI im ig A' M' := by
    rcases tl with ⟨_, _, _, _, k1⟩ | k1
    · exact ⟨k1.jl, k1.ba, k1.bm, k1.jn, k1.ji⟩
    · exact ⟨k1.jl, k1.ba, k1.bm, k1.jn, k1.ji⟩
  refine JJ.mk b.1 b.2.1 b.2.2.1 b.2.2.2.1 (JD_w hW h.xs h.xr hZ (by omega) fA fM h.jd) b.2.2.2.2 (FI_z h.fi hZ hW (by omega) fA fM) ?_ h.n2 ?_ ?_ ?_ ?_ (TS_z h.ts hZ hW (by omega) fA fM)
  · rw [fA.2.2.2.1 _ _ (by unfold PWa PCa PL; omega)]; exact h.nw
  · intro j hj
    by_cases q : j = k
    · subst q
      refine Or.inr ⟨c, by rw [e318]; exact hc, fM.ok oc, ?_⟩
      rcases tl with ⟨hd, ft, b0, v, k1⟩ | k1
      · exact Or.inr ⟨k1.ce, k1.cp, ⟨b0, v, k1.ci, k1.cs⟩, hd, ft, k1.cr⟩
      · exact Or.inl ⟨k1.sa, k1.sx⟩
    · exact CK_w hW h.xs h.xr hZ hj q (fun cj e1 e2 => q (h.inj (by rw [e1, e2]) hc)) fA fM (h.cc j hj)
  · intro i j hi hj s1 s2 e1 e2
    have st : ∀ i, i < 16 → mF A' 768 (342 + 4 * i) ≠ 0 → (mF A 768 (342 + 4 * i)) ≠ 0 := fun i hi hs' => by
      by_cases q : i = k
      · rw [q]; exact hs
      · rw [fA.2.2.2.1 768 _ (by unfold PWa PCa PL; omega)] at hs'
        exact hs'
    rw [zq.2.2.2.1 769 _ (by omega), zq.2.2.2.1 769 _ (by omega)] at e1
    rw [zq.2.2.2.1 770 _ (by omega), zq.2.2.2.1 770 _ (by omega)] at e2
    exact h.uq i j hi hj (st i hi s1) (st j hj s2) e1 e2
  · rw [zq.2.2.2.2.1, zq.2.2.2.1 1036 323 (by omega)]; exact h.zb
  · intro i hi hs'
    have s0 : (mF A 768 (342 + 4 * i)) ≠ 0 := by
      by_cases q : i = k
      · rw [q]; exact hs
      · rw [fA.2.2.2.1 768 _ (by unfold PWa PCa PL; omega)] at hs'
        exact hs'
    obtain ⟨x, x1, x2⟩ := h.tr i hi s0
    rcases zq.2.2.2.2.2 (342 + 4 * i) with q | q
    · exact ⟨x, x1, q.trans x2⟩
    · exact ⟨0, by decide, q⟩
/-- work of the link level keeps the whole -/
theorem JJ_link {u T' : Nat} (h : JJ A M KN KS t T im ig F ek ty nw) (jl : JL0 KN KS (t + u) T' A' M') (ba : Bd RM TM A') (bm : Bd RX TX M') (jn : JN A' M') (fA : FRA A A') (fM : FRM M M') (zq : Zq A A') : JJ A' M' KN KS (t + u) T' im ig F ek ty nw := by
  have hW := h.xw
  have hZ : CnZ M 0 := Or.inr rfl
  have fA' : FWA 16 A A' := fA.ca.wa
  have fM' : FWM 0 M M' := fM.cm.wm
  refine JJ.mk jl ba bm jn (JD_w hW h.xs h.xr hZ (by omega) fA' fM' h.jd) (JI_fr hW fA fM h.ji) (FI_z h.fi hZ hW (by omega) fA' fM') ?_ h.n2 ?_ ?_ ?_ ?_ (TS_z h.ts hZ hW (by omega) fA' fM')
  · rw [fA'.2.2.2.1 _ _ (by unfold PWa PCa PL; omega)]; exact h.nw
  · intro j hj
    exact CK_w hW h.xs h.xr hZ hj (by omega) (fun cj e1 e2 => by have := (h.ok e1).1; omega) fA' fM' (h.cc j hj)
  · intro i j hi hj s1 s2 e1 e2
    have st : ∀ i, i < 16 → mF A' 768 (342 + 4 * i) = (mF A 768 (342 + 4 * i)) := fun i hi => fA'.2.2.2.1 768 _ (by unfold PWa PCa PL; omega)
    rw [st i hi] at s1
    rw [st j hj] at s2
    rw [zq.2.2.2.1 769 _ (by omega), zq.2.2.2.1 769 _ (by omega)] at e1
    rw [zq.2.2.2.1 770 _ (by omega), zq.2.2.2.1 770 _ (by omega)] at e2
    exact h.uq i j hi hj s1 s2 e1 e2
  · rw [zq.2.2.2.2.1, zq.2.2.2.1 1036 323 (by omega)]; exact h.zb
  · intro i hi hs'
    rw [fA'.2.2.2.1 768 _ (by unfold PWa PCa PL; omega)] at hs'
    obtain ⟨x, x1, x2⟩ := h.tr i hi hs'
    rcases zq.2.2.2.2.2 (342 + 4 * i) with q | q
    · exact ⟨x, x1, q.trans x2⟩
    · exact ⟨0, by decide, q⟩
/-- a connection that a segment belongs to -/
def mt (A : Mm) (k : Nat) : Prop := (mF A 768 (342 + 4 * k)) ≠ 0 ∧ (mF A 769 (342 + 4 * k)) = (mF A 1054 323) ∧ (mF A 770 (342 + 4 * k)) = (mF A 1056 323)
theorem m_fstep (fu m : Nat) (hR : RW A) (h80 : (mF A 1057 323) = 80) {i : Nat} (hi : i < 16) (a2 : Option Nat) : (mt A i → fX16_tcp_L154 fu (m + 1) 323 a2 (nI i) A = fX16_tcp_L154 fu m 323 (some (342 + 4 * i)) (nI (i + 1)) A) ∧ (¬ mt A i → fX16_tcp_L154 fu (m + 1) 323 a2 (nI i) A = fX16_tcp_L154 fu m 323 a2 (nI (i + 1)) A) := by
  have o := rw_ok323 hR
  have oc := rw_cnO hR i hi
  rw [fX16_tcp_L154, if_neg (show ¬ (16 : Int32) ≤ nI i from nI_ge (b := 16) hi (by decide))]
  unfold fX16_tcp_L212
  rw [gI_ok o, ob_some, if_pos h80, gR_ok o, ob_some, rw_g1055_323 hR, gB_ok (rw_ok339 hR) (by rw [rw_ln339 hR]; omega) (by omega), ob_some, rw_cnB hR i hi]
  simp only [gI_ok oc, gI_ok o, ob_some, nI_1]
  unfold mt
  by_cases q1 : (mF A 768 (342 + 4 * i)) = 0
  · rw [if_pos q1]
    exact ⟨fun z => absurd q1 z.1, fun _ => rfl⟩
  · rw [if_neg q1]
    by_cases q2 : (mF A 769 (342 + 4 * i)) = (mF A 1054 323)
    · rw [if_pos q2]
      by_cases q3 : (mF A 770 (342 + 4 * i)) = (mF A 1056 323)
      · rw [if_pos q3]
        exact ⟨fun _ => rfl, fun z => absurd ⟨q1, q2, q3⟩ z⟩
      · rw [if_neg q3]
        exact ⟨fun z => absurd z.2.2 q3, fun _ => rfl⟩
    · rw [if_neg q2]
      exact ⟨fun z => absurd z.2.1 q2, fun _ => rfl⟩
theorem m_fnone (fu : Nat) (hR : RW A) (h80 : (mF A 1057 323) = 80) (a2 : Option Nat) : ∀ (d i m : Nat), i + d = 16 → d ≤ m → (∀ j, i ≤ j → j < 16 → ¬ mt A j) → fX16_tcp_L154 fu (m + 1) 323 a2 (nI i) A = fX16_tcp_L218 fu 323 a2 A := by
  intro d
  induction d with
  | zero =>
    intro i m h1 _ _
    rw [fX16_tcp_L154, if_pos (show (16 : Int32) ≤ nI i from nI_le (a := 16) (by omega) (by omega))]
  | succ d ih =>
    intro i m h1 h2 h3
    rw [(m_fstep fu m hR h80 (by omega) a2).2 (h3 i (Nat.le_refl _) (by omega)), show m = m - 1 + 1 by omega]
    exact ih (i + 1) (m - 1) (by omega) (by omega) (fun j h4 h5 => h3 j (by omega) h5)
theorem m_fone (fu : Nat) (hR : RW A) (h80 : (mF A 1057 323) = 80) {k : Nat} (hk : k < 16) (hm : mt A k) (hu : ∀ j, j < 16 → mt A j → j = k) : ∀ (d i m : Nat), i + d = k → d + 16 ≤ m → fX16_tcp_L154 fu (m + 1) 323 none (nI i) A = fX16_tcp_L218 fu 323 (some (342 + 4 * k)) A := by
  intro d
  induction d with
  | zero =>
    intro i m h1 h2
    have : i = k := by omega
    subst this
    rw [(m_fstep fu m hR h80 (by omega) none).1 hm, show m = m - 1 + 1 by omega]
    exact m_fnone fu hR h80 _ (15 - i) (i + 1) (m - 1) (by omega) (by omega) (fun j h4 h5 z => by have := hu j h5 z; omega)
  | succ d ih =>
    intro i m h1 h2
    rw [(m_fstep fu m hR h80 (by omega) none).2 (fun z => by have := hu i (by omega) z; omega), show m = m - 1 + 1 by omega]
    exact ih (i + 1) (m - 1) (by omega) (by omega)
/-- the class looks at one place -/
theorem x_fstep (fu m : Nat) (h : JJ A M KN KS t T im ig F ek ty nw) {bd da dx dl w : Nat} (hG : SG A M bd da dx dl w) (h80 : (mF A 1057 323) = 80) {i : Nat} (hi : i < 16) : (∃ c, mt A i ∧ mB M 318 i = some c ∧ fX9_connectionOfSegment_L2 fu (m + 1) 317 (nI i) M = some (some c, M)) ∨ (¬ mt A i ∧ fX9_connectionOfSegment_L2 fu (m + 1) 317 (nI i) M = fX9_connectionOfSegment_L2 fu m 317 (nI (i + 1)) M) := by
  have hW := h.xw
  have o := xw_ok317 hW
  have o3 := xw_ok314 hW
  have h80' : (mF M 195 314) = 80 := hG.tp.symm.trans h80
  rw [fX9_connectionOfSegment_L2, if_neg (show ¬ (16 : Int32) ≤ nI i from nI_ge (b := 16) hi (by decide)), gR_ok o, ob_some, xw_g579_317 hW, gI_ok o3, ob_some, if_pos h80', rc_ok o, ob_some]
  unfold fX9_connectionAt fX9_connectionOfSegment_L60
  rw [if_neg (nI_pos (by omega)), if_pos (show (nI i : Int32) < (16 : Int32) from nI_lt (b := 16) hi (by decide)), gR_ok o, ob_some, xw_g580_317 hW, gB_ok (xw_ok318 hW) (by rw [xw_ln318 hW]; omega) (by omega), ob_some, nI_1]
  rcases h.cc i hi with ⟨e1, e2⟩ | ⟨c, e1, e2, e3⟩
  · rw [e1, if_pos rfl, b2_some, if_pos rfl]
    exact Or.inr ⟨fun z => z.1 e2, rfl⟩
  · rw [e1, if_neg (by simp), gI_ok e2, ob_some]
    rcases e3 with ⟨s1, s2⟩ | hL
    · rw [if_pos s2, b2_some, if_pos rfl]
      exact Or.inr ⟨fun z => z.1 s1, rfl⟩
    · obtain ⟨ce, -, ⟨b0, v, ci, cs⟩, -⟩ := hL
      have nz : (mF A 768 (342 + 4 * i)) ≠ 0 := fun z => by
        rw [cs.st] at z
        have := (nI_eq (a := (v 0)) (b := 0) (by have := cs.st1; omega) (by decide)).mp z
        have := cs.st1
        omega
      rw [if_neg (fun z => nz (ce.st.trans z)), b2_some, if_neg (by simp), gI_ok e2, ob_some, gR_ok o, ob_some, xw_g579_317 hW, gI_ok o3, ob_some, ← ce.ip, ← hG.sd]
      by_cases q1 : (mF A 769 (342 + 4 * i)) = (mF A 1054 323)
      · rw [if_pos q1, gI_ok e2, ob_some, ob_some, gI_ok o3, ob_some, ← ce.po, ← hG.fp]
        by_cases q2 : (mF A 770 (342 + 4 * i)) = (mF A 1056 323)
        · rw [if_pos q2]
          exact Or.inl ⟨c, ⟨nz, q1, q2⟩, rfl, rfl⟩
        · rw [if_neg q2]
          exact Or.inr ⟨fun z => q2 z.2.2, rfl⟩
      · rw [if_neg q1]
        exact Or.inr ⟨fun z => q1 z.2.1, rfl⟩
theorem x_find (fu : Nat) (h : JJ A M KN KS t T im ig F ek ty nw) {bd da dx dl w : Nat} (hG : SG A M bd da dx dl w) (h80 : (mF A 1057 323) = 80) : ∀ (d i m : Nat), i + d = 16 → d ≤ m → (∃ k c, k < 16 ∧ mt A k ∧ mB M 318 k = some c ∧ fX9_connectionOfSegment_L2 fu (m + 1) 317 (nI i) M = some (some c, M)) ∨ ((∀ j, i ≤ j → j < 16 → ¬ mt A j) ∧ fX9_connectionOfSegment_L2 fu (m + 1) 317 (nI i) M = some (none, M)) := by
  intro d
  induction d with
  | zero =>
    intro i m h1 _
    refine Or.inr ⟨fun j h2 h3 => by omega, ?_⟩
    rw [fX9_connectionOfSegment_L2, if_pos (show (16 : Int32) ≤ nI i from nI_le (a := 16) (by omega) (by omega))]
  | succ d ih =>
    intro i m h1 h2
    rcases x_fstep fu m h hG h80 (i := i) (by omega) with ⟨c, z1, z2, z3⟩ | ⟨z1, z2⟩
    · exact Or.inl ⟨i, c, by omega, z1, z2, z3⟩
    · rw [z2, show m = m - 1 + 1 by omega]
      rcases ih (i + 1) (m - 1) (by omega) (by omega) with y | ⟨y1, y2⟩
      · exact Or.inl y
      · refine Or.inr ⟨fun j h3 h4 => ?_, y2⟩
        by_cases q : j = i
        · rw [q]; exact z1
        · exact y1 j (by omega) h4
/-- the connection of a segment, in both -/
theorem sp_find' (fu : Nat) (hfu : 100 ≤ fu) (h : JJ A M KN KS t T im ig F ek ty nw) {bd da dx dl w : Nat} (hG : SG A M bd da dx dl w) :
    (∃ k c, k < 16 ∧ mB M 318 k = some c ∧ (mF A 768 (342 + 4 * k)) ≠ 0 ∧ fX16_tcp_L154 fu fu 323 none 0 A = fX16_tcp_L218 fu 323 (some (342 + 4 * k)) A ∧ fX9_connectionOfSegment fu 317 M = some (some c, M)) ∨ (((mF A 1057 323) = 80 → ∀ k, k < 16 → ¬ mt A k) ∧ fX16_tcp_L154 fu fu 323 none 0 A = fX16_tcp_L218 fu 323 none A ∧ fX9_connectionOfSegment fu 317 M = some (none, M)) := by
  have hR := h.rw'
  have hW := h.xw
  have ef : fu = fu - 1 + 1 := by omega
  by_cases h80 : (mF A 1057 323) = 80
  · have X := x_find fu h hG h80 16 0 (fu - 1) (by decide) (by omega)
    rw [← ef] at X
    rcases X with ⟨k, c, k1, k2, k3, k4⟩ | ⟨k1, k2⟩
    · refine Or.inl ⟨k, c, k1, k3, k2.1, ?_, k4⟩
      have Y := m_fone fu hR h80 k1 k2 (fun j hj hm => h.uq j k hj k1 hm.1 k2.1 (hm.2.1.trans k2.2.1.symm) (hm.2.2.trans k2.2.2.symm)) k 0 (fu - 1) (by omega) (by omega)
      rw [← ef] at Y
      exact Y
    · refine Or.inr ⟨fun _ k hk => k1 k (by omega) hk, ?_, k2⟩
      have Y := m_fnone fu hR h80 none 16 0 (fu - 1) (by decide) (by omega) (fun j h1 h2 => k1 j h1 h2)
      rw [← ef] at Y
      exact Y
  · have h80' : ¬ (mF M 195 314) = 80 := fun z => h80 (hG.tp.trans z)
    refine Or.inr ⟨fun z => absurd z h80, ?_, ?_⟩
    · rw [ef, fX16_tcp_L154, ← ef, if_neg (by decide), gI_ok (rw_ok323 hR), ob_some, if_neg h80]
    · unfold fX9_connectionOfSegment
      rw [ef, fX9_connectionOfSegment_L2, ← ef, if_neg (by decide), gR_ok (xw_ok317 hW), ob_some, xw_g579_317 hW, gI_ok (xw_ok314 hW), ob_some, if_neg h80']
end Find
