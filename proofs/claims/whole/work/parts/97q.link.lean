/-! ===== part 97q: the segment that came; resets; acknowledgements; connections that are gone ===== -/
/-- the segment that is looked at, in both -/
def SG (A M : Mm) (bd da dx dl w : Nat) : Prop := ((mF A 1054 323) = (mF M 193 314)) ∧ ((mF A 1056 323) = (mF M 194 314)) ∧ ((mF A 1057 323) = (mF M 195 314)) ∧ ((mF A 1058 323) = (mF M 196 314)) ∧ ((mF A 1059 323) = (mF M 197 314)) ∧ ((mF A 1060 323) = (mF M 198 314) &&& 31) ∧ ((mF A 1061 323) = nI w) ∧ ((mF M 199 314) = nI w) ∧ (w ≤ 65535) ∧ ((mF A 1063 323) = nI dl) ∧ ((mF M 201 314) = nI dl) ∧ ((mF A 1062 323) = nI da) ∧ ((mF M 200 314) = nI dx) ∧ (da + dl ≤ 4096) ∧ ((mG M 192 314) = some bd) ∧ (okA M 100 bd) ∧ (dx + dl ≤ sLen (mS M) bd) ∧ (sLen (mS M) bd < 2 ^ 30) ∧ (∀ j, j < dl → mA A 338 (da + j) = mA M bd (dx + j)) ∧ (bd ≠ 308) ∧ (sTy (mS M) (bd - 1) ≠ 6) ∧ (sTy (mS M) (bd - 1) ≠ 1) ∧ (sTy (mS M) (bd - 1) ≠ 0) ∧ True
theorem SG.sd {A M : Mm} {bd da dx dl w : Nat} (h : SG A M bd da dx dl w) : (mF A 1054 323) = (mF M 193 314) := h.1
theorem SG.fp {A M : Mm} {bd da dx dl w : Nat} (h : SG A M bd da dx dl w) : (mF A 1056 323) = (mF M 194 314) := h.2.1
theorem SG.tp {A M : Mm} {bd da dx dl w : Nat} (h : SG A M bd da dx dl w) : (mF A 1057 323) = (mF M 195 314) := h.2.2.1
theorem SG.sq {A M : Mm} {bd da dx dl w : Nat} (h : SG A M bd da dx dl w) : (mF A 1058 323) = (mF M 196 314) := h.2.2.2.1
theorem SG.ak {A M : Mm} {bd da dx dl w : Nat} (h : SG A M bd da dx dl w) : (mF A 1059 323) = (mF M 197 314) := h.2.2.2.2.1
theorem SG.fl {A M : Mm} {bd da dx dl w : Nat} (h : SG A M bd da dx dl w) : (mF A 1060 323) = (mF M 198 314) &&& 31 := h.2.2.2.2.2.1
theorem SG.wi {A M : Mm} {bd da dx dl w : Nat} (h : SG A M bd da dx dl w) : (mF A 1061 323) = nI w := h.2.2.2.2.2.2.1
theorem SG.wx {A M : Mm} {bd da dx dl w : Nat} (h : SG A M bd da dx dl w) : (mF M 199 314) = nI w := h.2.2.2.2.2.2.2.1
theorem SG.w1 {A M : Mm} {bd da dx dl w : Nat} (h : SG A M bd da dx dl w) : w ≤ 65535 := h.2.2.2.2.2.2.2.2.1
theorem SG.dl {A M : Mm} {bd da dx dl w : Nat} (h : SG A M bd da dx dl w) : (mF A 1063 323) = nI dl := h.2.2.2.2.2.2.2.2.2.1
theorem SG.dlx {A M : Mm} {bd da dx dl w : Nat} (h : SG A M bd da dx dl w) : (mF M 201 314) = nI dl := h.2.2.2.2.2.2.2.2.2.2.1
theorem SG.da {A M : Mm} {bd da dx dl w : Nat} (h : SG A M bd da dx dl w) : (mF A 1062 323) = nI da := h.2.2.2.2.2.2.2.2.2.2.2.1
theorem SG.dx {A M : Mm} {bd da dx dl w : Nat} (h : SG A M bd da dx dl w) : (mF M 200 314) = nI dx := h.2.2.2.2.2.2.2.2.2.2.2.2.1
theorem SG.dal {A M : Mm} {bd da dx dl w : Nat} (h : SG A M bd da dx dl w) : da + dl ≤ 4096 := h.2.2.2.2.2.2.2.2.2.2.2.2.2.1
theorem SG.bd {A M : Mm} {bd da dx dl w : Nat} (h : SG A M bd da dx dl w) : (mG M 192 314) = some bd := h.2.2.2.2.2.2.2.2.2.2.2.2.2.2.1
theorem SG.bo {A M : Mm} {bd da dx dl w : Nat} (h : SG A M bd da dx dl w) : okA M 100 bd := h.2.2.2.2.2.2.2.2.2.2.2.2.2.2.2.1
theorem SG.bl {A M : Mm} {bd da dx dl w : Nat} (h : SG A M bd da dx dl w) : dx + dl ≤ sLen (mS M) bd := h.2.2.2.2.2.2.2.2.2.2.2.2.2.2.2.2.1
theorem SG.bl2 {A M : Mm} {bd da dx dl w : Nat} (h : SG A M bd da dx dl w) : sLen (mS M) bd < 2 ^ 30 := h.2.2.2.2.2.2.2.2.2.2.2.2.2.2.2.2.2.1
theorem SG.by' {A M : Mm} {bd da dx dl w : Nat} (h : SG A M bd da dx dl w) : ∀ j, j < dl → mA A 338 (da + j) = mA M bd (dx + j) := h.2.2.2.2.2.2.2.2.2.2.2.2.2.2.2.2.2.2.1
theorem SG.b8 {A M : Mm} {bd da dx dl w : Nat} (h : SG A M bd da dx dl w) : bd ≠ 308 := h.2.2.2.2.2.2.2.2.2.2.2.2.2.2.2.2.2.2.2.1
theorem SG.t6 {A M : Mm} {bd da dx dl w : Nat} (h : SG A M bd da dx dl w) : sTy (mS M) (bd - 1) ≠ 6 := h.2.2.2.2.2.2.2.2.2.2.2.2.2.2.2.2.2.2.2.2.1
theorem SG.t1 {A M : Mm} {bd da dx dl w : Nat} (h : SG A M bd da dx dl w) : sTy (mS M) (bd - 1) ≠ 1 := h.2.2.2.2.2.2.2.2.2.2.2.2.2.2.2.2.2.2.2.2.2.1
theorem SG.t0 {A M : Mm} {bd da dx dl w : Nat} (h : SG A M bd da dx dl w) : sTy (mS M) (bd - 1) ≠ 0 := h.2.2.2.2.2.2.2.2.2.2.2.2.2.2.2.2.2.2.2.2.2.2.1
theorem SG.mk {A M : Mm} {bd da dx dl w : Nat} (sd_ : (mF A 1054 323) = (mF M 193 314)) (fp_ : (mF A 1056 323) = (mF M 194 314)) (tp_ : (mF A 1057 323) = (mF M 195 314)) (sq_ : (mF A 1058 323) = (mF M 196 314)) (ak_ : (mF A 1059 323) = (mF M 197 314)) (fl_ : (mF A 1060 323) = (mF M 198 314) &&& 31) (wi_ : (mF A 1061 323) = nI w) (wx_ : (mF M 199 314) = nI w) (w1_ : w ≤ 65535) (dl_ : (mF A 1063 323) = nI dl) (dlx_ : (mF M 201 314) = nI dl) (da_ : (mF A 1062 323) = nI da) (dx_ : (mF M 200 314) = nI dx) (dal_ : da + dl ≤ 4096) (bd_ : (mG M 192 314) = some bd) (bo_ : okA M 100 bd) (bl_ : dx + dl ≤ sLen (mS M) bd) (bl2_ : sLen (mS M) bd < 2 ^ 30) (by'_ : ∀ j, j < dl → mA A 338 (da + j) = mA M bd (dx + j)) (b8_ : bd ≠ 308) (t6_ : sTy (mS M) (bd - 1) ≠ 6) (t1_ : sTy (mS M) (bd - 1) ≠ 1) (t0_ : sTy (mS M) (bd - 1) ≠ 0) : SG A M bd da dx dl w := ⟨sd_, fp_, tp_, sq_, ak_, fl_, wi_, wx_, w1_, dl_, dlx_, da_, dx_, dal_, bd_, bo_, bl_, bl2_, by'_, b8_, t6_, t1_, t0_, trivial⟩
/-- a connection that is gone -/
def TD (A M : Mm) (KN KS t T im ig k c nw : Nat) : Prop := (JL0 KN KS t T A M) ∧ (Bd RM TM A) ∧ (Bd RX TX M) ∧ (JN A M) ∧ (JI im ig A M) ∧ (CnO M c) ∧ ((mF A 768 (342 + 4 * k)) = 0) ∧ ((mF M 64 c) = 0) ∧ ((mF A 1034 323) = nI nw) ∧ (nw ≤ 2000000000) ∧ True
theorem TD.jl {A M : Mm} {KN KS t T im ig k c nw : Nat} (h : TD A M KN KS t T im ig k c nw) : JL0 KN KS t T A M := h.1
theorem TD.ba {A M : Mm} {KN KS t T im ig k c nw : Nat} (h : TD A M KN KS t T im ig k c nw) : Bd RM TM A := h.2.1
theorem TD.bm {A M : Mm} {KN KS t T im ig k c nw : Nat} (h : TD A M KN KS t T im ig k c nw) : Bd RX TX M := h.2.2.1
theorem TD.jn {A M : Mm} {KN KS t T im ig k c nw : Nat} (h : TD A M KN KS t T im ig k c nw) : JN A M := h.2.2.2.1
theorem TD.ji {A M : Mm} {KN KS t T im ig k c nw : Nat} (h : TD A M KN KS t T im ig k c nw) : JI im ig A M := h.2.2.2.2.1
theorem TD.cn {A M : Mm} {KN KS t T im ig k c nw : Nat} (h : TD A M KN KS t T im ig k c nw) : CnO M c := h.2.2.2.2.2.1
theorem TD.sa {A M : Mm} {KN KS t T im ig k c nw : Nat} (h : TD A M KN KS t T im ig k c nw) : (mF A 768 (342 + 4 * k)) = 0 := h.2.2.2.2.2.2.1
theorem TD.sx {A M : Mm} {KN KS t T im ig k c nw : Nat} (h : TD A M KN KS t T im ig k c nw) : (mF M 64 c) = 0 := h.2.2.2.2.2.2.2.1
theorem TD.nw {A M : Mm} {KN KS t T im ig k c nw : Nat} (h : TD A M KN KS t T im ig k c nw) : (mF A 1034 323) = nI nw := h.2.2.2.2.2.2.2.2.1
theorem TD.n2 {A M : Mm} {KN KS t T im ig k c nw : Nat} (h : TD A M KN KS t T im ig k c nw) : nw ≤ 2000000000 := h.2.2.2.2.2.2.2.2.2.1
theorem TD.mk {A M : Mm} {KN KS t T im ig k c nw : Nat} (jl_ : JL0 KN KS t T A M) (ba_ : Bd RM TM A) (bm_ : Bd RX TX M) (jn_ : JN A M) (ji_ : JI im ig A M) (cn_ : CnO M c) (sa_ : (mF A 768 (342 + 4 * k)) = 0) (sx_ : (mF M 64 c) = 0) (nw_ : (mF A 1034 323) = nI nw) (n2_ : nw ≤ 2000000000) : TD A M KN KS t T im ig k c nw := ⟨jl_, ba_, bm_, jn_, ji_, cn_, sa_, sx_, nw_, n2_, trivial⟩
def QR (a : Nat) : Prop := QL a ∨ a = 330
def QRx (u t s a : Nat) : Prop := QLx u t s a ∨ a = 305
/-- the link level and counts alone are other -/
def FRA (A A' : Mm) : Prop := FB PL QR A A'
def FRM (M M' : Mm) : Prop := FM PLx noG BLx QRx M M'
section Link2
variable {A A' A'' M M' M'' : Mm}
theorem FRA.tr (h : FRA A A') (g : FRA A' A'') : FRA A A'' := FB.tr h g
theorem FRM.tr (h : FRM M M') (g : FRM M' M'') : FRM M M'' := FM.tr h g
theorem FRA.ca {k : Nat} (h : FRA A A') : FCA k A A' := FB.mono (fun f a q => Or.inl q) (fun a q => q.elim Or.inl (fun e => Or.inr (Or.inr e))) h
theorem FRM.cm {c : Nat} (h : FRM M M') : FCM c M M' := FM.mono (fun t f a q => Or.inl q) (fun f a q => q) (fun a q => q) (fun u t s a q => q.elim Or.inl (fun e => Or.inr (Or.inr (Or.inr (Or.inr e))))) h
theorem FrA.ra (h : FrA A A') : FRA A A' := FB.mono (fun f a q => q) (fun a q => Or.inl q) h.fb
theorem FrM.rm (h : FrM M M') : FRM M M' := FM.mono (fun t f a q => q) (fun f a q => q) (fun a q => q) (fun u t s a q => Or.inl q) h.gen
theorem FRA_330 (g : Nat → Int32) : FRA A (wA A 330 g) := ⟨rfl, rfl, rfl, fun _ _ _ => rfl, fun a n => mA_wA_ne (fun e => n (Or.inr e)), Int32.le_refl _⟩
theorem FRM_305 (g : Nat → Int32) : FRM M (wA M 305 g) := ⟨Nat.le_refl _, fun _ _ => ⟨rfl, rfl⟩, fun _ _ _ _ => rfl, fun _ _ _ => rfl, fun _ _ _ _ => rfl, fun a _ n => mA_wA_ne (fun e => n (Or.inr e))⟩
/-- cells of different kinds are different -/
theorem ok_ne {t u a b : Nat} (h : okA M t a) (g : okA M u b) (n : t ≠ u) : a ≠ b := fun e => by
  subst e
  exact n (h.2.2.symm.trans g.2.2)
theorem FM.okP {P : Nat → Nat → Nat → Prop} {G : Nat → Nat → Prop} {B : Nat → Prop} {Q : Nat → Nat → Nat → Nat → Prop} (h : FM P G B Q M M') {t a f : Nat} (ha : okA M t a) (n : ¬ P t f a) : mF M' f a = mF M f a := h.2.2.2.2.1 f a ha.2.1 (by rw [ha.2.2]; exact n)
theorem SG_fr {bd da dx dl w k c : Nat} (hW : XW M) (hC : CnO M c) (fA : FCA k A A') (fM : FCM c M M') (h : SG A M bd da dx dl w) : SG A' M' bd da dx dl w := by
  have a3 : ∀ f, (f = 1054 ∨ (1056 ≤ f ∧ f ≤ 1064)) → mF A' f 323 = mF A f 323 := fun f hf => fA.2.2.2.1 f 323 (by unfold PCa PL; omega)
  have o3 := xw_ok314 hW
  obtain ⟨c1, c2, c3, c4, c5, c6, c7, c8, c9, c10, c11, c12, c13, c14⟩ := hC
  have n1 := ok_ne o3 c1 (by decide)
  have n2 := ok_ne o3 c7 (by decide)
  have n3 := ok_ne o3 c14 (by decide)
  have m3 : ∀ f, 192 ≤ f → f < 256 → mF M' f 314 = mF M f 314 := fun f h1 h2 => fM.okP o3 (by unfold PCx PLx; omega)
  have hbo := h.bo
  have lt := hbo.2.1
  obtain ⟨ty, ln⟩ := fM.2.1 bd lt
  have ty1 := (fM.2.1 (bd - 1) (by omega)).1
  have hbA : mA M' bd = mA M bd := by
    refine fM.2.2.2.2.2 bd lt ?_
    have t6 := h.t6
    have t1 := h.t1
    have t0 := h.t0
    have b8 := h.b8
    have q := n100 hW hbo
    have q1 : bd ≠ c + 1 := fun e => t1 (by rw [e]; exact c1.2.2)
    have q2 : bd ≠ c + 3 := fun e => t0 (by rw [e]; exact c7.2.2)
    have q3 := ok_ne hbo c12 (by decide)
    have q4 := ok_ne hbo (xw_ok305 hW) (by decide)
    unfold QCx QLx
    omega
  have h338 : mA A' 338 = mA A 338 := fA.2.2.2.2.1 338 (by unfold QCa QL; omega)
  refine SG.mk ?_ ?_ ?_ ?_ ?_ ?_ ?_ ?_ h.w1 ?_ ?_ ?_ ?_ h.dal ?_ ?_ ?_ ?_ ?_ h.b8 ?_ ?_ ?_
  · rw [a3 _ (by omega), m3 _ (by decide) (by decide)]; exact h.sd
  · rw [a3 _ (by omega), m3 _ (by decide) (by decide)]; exact h.fp
  · rw [a3 _ (by omega), m3 _ (by decide) (by decide)]; exact h.tp
  · rw [a3 _ (by omega), m3 _ (by decide) (by decide)]; exact h.sq
  · rw [a3 _ (by omega), m3 _ (by decide) (by decide)]; exact h.ak
  · rw [a3 _ (by omega), m3 _ (by decide) (by decide)]; exact h.fl
  · rw [a3 _ (by omega)]; exact h.wi
  · rw [m3 _ (by decide) (by decide)]; exact h.wx
  · rw [a3 _ (by omega)]; exact h.dl
  · rw [m3 _ (by decide) (by decide)]; exact h.dlx
  · rw [a3 _ (by omega)]; exact h.da
  · rw [m3 _ (by decide) (by decide)]; exact h.dx
  · rw [fM.2.2.1 192 314 o3.2.1 (fun e => e)]; exact h.bd
  · exact fM.ok hbo
  · rw [ln]; exact h.bl
  · rw [ln]; exact h.bl2
  · rw [h338, hbA]; exact h.by'
  · rw [ty1]; exact h.t6
  · rw [ty1]; exact h.t1
  · rw [ty1]; exact h.t0
/-- flags -/
theorem fl_and {x b : Int32} (h : (31 : Int32) &&& b = b) : (x &&& 31) &&& b = x &&& b := by rw [Int32.and_assoc, h]
theorem m_is (fu : Nat) (hR : RW A) (b : Int32) : fX16_is fu 323 b A = some (if ((mF A 1060 323) &&& b) = 0 then 0 else 1, A) := by
  unfold fX16_is
  rw [gI_ok (rw_ok323 hR), ob_some]
  by_cases q : ((mF A 1060 323) &&& b) = 0
  · rw [if_pos q, if_pos q, rN0]
  · rw [if_neg q, if_neg q, rN1]
theorem x_has (fu : Nat) (hW : XW M) (b : Int32) : fX3_has fu 314 b M = some (if ((mF M 198 314) &&& b) = 0 then 0 else 1, M) := by
  unfold fX3_has
  rw [gI_ok (xw_ok314 hW), ob_some]
  by_cases q : ((mF M 198 314) &&& b) = 0
  · rw [if_pos q, if_pos q, rN0]
  · rw [if_neg q, if_neg q, rN1]
theorem x_hasA (fu : Nat) (hW : XW M) {bd da dx dl w : Nat} (h : SG A M bd da dx dl w) (b : Int32) (hb : (31 : Int32) &&& b = b) : fX3_has fu 314 b M = some (if ((mF A 1060 323) &&& b) = 0 then 0 else 1, M) := by
  rw [x_has fu hW, h.fl, fl_and hb]
def exN (A : Mm) (dl : Nat) : Nat := dl + (if ((mF A 1060 323) &&& 2) = 0 then 0 else 1) + (if ((mF A 1060 323) &&& 1) = 0 then 0 else 1)
theorem if01 (p : Prop) [Decidable p] {β : Type} {x y : β} : (if (if p then (0 : Int32) else 1) = 0 then x else y) = if p then x else y := by
  by_cases q : p
  · simp only [if_pos q, if_true]
  · rw [if_neg q, if_neg q, if_neg (by decide)]
theorem m_extent (fu : Nat) (hR : RW A) {dl : Nat} (hd : (mF A 1063 323) = nI dl) : fX16_extent fu 323 A = some (nI (exN A dl), A) := by
  unfold fX16_extent fX16_extent_L17
  have o := rw_ok323 hR
  simp only [gI_ok o, rc_ok o, ob_some, m_is fu hR, b2_some, if01, hd]
  unfold exN
  by_cases q : ((mF A 1060 323) &&& 2) = 0
  · by_cases p : ((mF A 1060 323) &&& 1) = 0
    · simp only [if_pos q, if_pos p, Int32.add_zero, Nat.add_zero]
    · simp only [if_pos q, if_neg p, Int32.add_zero, Nat.add_zero, nI_1]
  · by_cases p : ((mF A 1060 323) &&& 1) = 0
    · simp only [if_neg q, if_pos p, Int32.add_zero, Nat.add_zero, nI_1]
    · simp only [if_neg q, if_neg p, nI_1]
theorem x_span (fu : Nat) (hW : XW M) {bd da dx dl w : Nat} (h : SG A M bd da dx dl w) : fX3_span fu 314 M = some (nI (exN A dl), M) := by
  unfold fX3_span fX3_span_L17
  have o := xw_ok314 hW
  simp only [gI_ok o, rc_ok o, ob_some, x_hasA fu hW h 2 (by decide), x_hasA fu hW h 1 (by decide), b2_some, if01, h.dlx]
  unfold exN
  by_cases q : ((mF A 1060 323) &&& 2) = 0
  · by_cases p : ((mF A 1060 323) &&& 1) = 0
    · simp only [if_pos q, if_pos p, Int32.add_zero, Nat.add_zero]
    · simp only [if_pos q, if_neg p, Int32.add_zero, Nat.add_zero, nI_1]
  · by_cases p : ((mF A 1060 323) &&& 1) = 0
    · simp only [if_neg q, if_pos p, Int32.add_zero, Nat.add_zero, nI_1]
    · simp only [if_neg q, if_neg p, nI_1]
/-- the image under a frame of the link level -/
theorem JI_fr {im ig : Nat} (hW : XW M) (fA : FRA A A') (fM : FRM M M') (h : JI im ig A M) : JI im ig A' M' := by
  obtain ⟨z1, z2, z3, z4, z5, z6, z7, z8, z9, z10, z11⟩ := h
  have lt := z2.2.1
  obtain ⟨ty, ln⟩ := fM.2.1 ig lt
  have ty1 := (fM.2.1 (ig - 1) (by omega)).1
  have hA : mA A' 325 = mA A 325 := fA.2.2.2.2.1 325 (by unfold QR QL; omega)
  have hM : mA M' ig = mA M ig := by
    refine fM.2.2.2.2.2 ig lt ?_
    have q := n100 hW z2
    have q4 := ok_ne z2 (xw_ok305 hW) (by decide)
    unfold QRx QLx
    omega
  refine ⟨?_, fM.ok z2, by rw [ln]; exact z3, z4, by rw [hA, hM]; exact z5, z6, by rw [ty1]; exact z7, by rw [ty1]; exact z8, by rw [ty1]; exact z9, by rw [ty1]; exact z10, z11⟩
  rw [fM.2.2.1 512 301 (xw_ok301 hW).2.1 (fun e => e)]; exact z1
theorem CnO_fr {c : Nat} {P : Nat → Nat → Nat → Prop} {B : Nat → Prop} {Q : Nat → Nat → Nat → Nat → Prop} (fM : FM P noG B Q M M') (h : CnO M c) : CnO M' c := by
  obtain ⟨c1, c2, c3, c4, c5, c6, c7, c8, c9, c10, c11, c12, c13, c14⟩ := h
  exact ⟨fM.ok c1, (fM.2.2.1 _ _ c1.2.1 (fun e => e)).trans c2, (fM.2.2.1 _ _ c1.2.1 (fun e => e)).trans c3, (fM.2.2.1 _ _ c1.2.1 (fun e => e)).trans c4, fM.ok c5, (fM.2.1 _ c5.2.1).2.trans c6, fM.ok c7, (fM.2.2.1 _ _ c7.2.1 (fun e => e)).trans c8, (fM.2.2.1 _ _ c7.2.1 (fun e => e)).trans c9, fM.ok c10, (fM.2.1 _ c10.2.1).2.trans c11, fM.ok c12, (fM.2.1 _ c12.2.1).2.trans c13, fM.ok c14⟩
/-- what a frame of the link level leaves of a connection -/
theorem FRM_at {c : Nat} (hW : XW M) (hC : CnO M c) (fM : FRM M M') : (∀ f o, o = c ∨ o = c + 2 ∨ o = c + 5 → f < 256 ∨ (320 ≤ f ∧ f < 640) → mF M' f o = mF M f o) ∧ mA M' (c + 1) = mA M (c + 1) ∧ mA M' (c + 3) = mA M (c + 3) ∧ mA M' (c + 4) = mA M (c + 4) := by
  obtain ⟨c1, c2, c3, c4, c5, c6, c7, c8, c9, c10, c11, c12, c13, c14⟩ := hC
  have x1 := ok_ne c1 (xw_ok307 hW) (by decide)
  have x2 := ok_ne c1 (xw_ok304 hW) (by decide)
  have x3 := ok_ne c10 (xw_ok304 hW) (by decide)
  have x4 := ok_ne c10 (xw_ok307 hW) (by decide)
  have x5 := n100 hW c5
  have x6 := n100 hW c10
  have x7 := ok_ne c5 (xw_ok305 hW) (by decide)
  have x8 := ok_ne c10 (xw_ok305 hW) (by decide)
  have x9 := ok_ne c7 (xw_ok307 hW) (by decide)
  have x10 := ok_ne c10 (xw_ok309 hW) (by decide)
  have x11 := ok_ne c10 (xw_ok310 hW) (by decide)
  have x12 := ok_ne c10 (xw_ok311 hW) (by decide)
  have x13 := ok_ne c10 (xw_ok308 hW)
  refine ⟨fun f o ho hf => ?_, ?_, ?_, ?_⟩
  · rcases ho with rfl | rfl | rfl
    · exact fM.okP c1 (by unfold PLx; omega)
    · exact fM.okP c7 (by unfold PLx; omega)
    · exact fM.okP c14 (by unfold PLx; omega)
  · refine fM.2.2.2.2.2 _ c5.2.1 ?_
    rw [show c + 1 - 1 = c by omega, c1.2.2]
    unfold QRx QLx
    omega
  · refine fM.2.2.2.2.2 _ c10.2.1 ?_
    rw [show c + 3 - 1 = c + 2 by omega, c7.2.2]
    unfold QRx QLx
    omega
  · refine fM.2.2.2.2.2 _ c12.2.1 ?_
    rw [show c + 4 - 1 = c + 3 by omega, c10.2.2]
    unfold QRx QLx
    have : c + 3 ≠ 308 := fun e => by
      have y := xw_ok307 hW
      have : c + 2 = 307 := by omega
      rw [this] at c7
      exact absurd (c7.2.2.symm.trans y.2.2) (by decide)
    have : c + 3 ≠ 307 := x4
    omega
theorem TK_link {KN KS t T T' k c nw im ig hd ft : Nat} {b0 : Int32} {v : Nat → Nat} (hk : k < 16) (h : TK A M KN KS t T im ig k c nw hd ft b0 v) (hJ : JL0 KN KS t T' A' M') (ba : Bd RM TM A') (bm : Bd RX TX M') (jn : JN A' M') (fA : FRA A A') (fM : FRM M M') : TK A' M' KN KS t T' im ig k c nw hd ft b0 v := by
  have hW := h.xw
  obtain ⟨z1, z2, z3, z4⟩ := FRM_at hW h.cn fM
  have FA' : ∀ g, ¬ (g < 768 ∨ 832 ≤ g) → mF A' g (342 + 4 * k) = mF A g (342 + 4 * k) := fun g hg => fA.2.2.2.1 g _ (by unfold PL; omega)
  have AA : ∀ a, 343 ≤ a → a < 406 → mA A' a = mA A a := fun a h1 h2 => fA.2.2.2.2.1 a (by unfold QR QL; omega)
  refine TK.mk hJ ba bm jn (JI_fr hW fA fM h.ji) (CnO_fr fM h.cn) ?_ ?_ ?_ ?_ ?_ ?_ h.n2
  · exact CE_congr (fun f h1 h2 => FA' f (by omega)) (AA _ (by omega) (by omega)) (fun f h1 h2 => z1 f _ (Or.inl rfl) (by omega)) z2 h.ce
  · exact CP_congr (fun f h1 h2 => FA' f (by omega)) (fun f h1 h2 => z1 f _ (Or.inr (Or.inr rfl)) (by omega)) h.cp
  · exact CI_congr (fun f h1 h2 => FA' f (by omega)) h.ci
  · have hS := h.cs
    refine CS.mk ?_ ?_ ?_ ?_ ?_ ?_ ?_ ?_ ?_
    · exact (FA' 768 (by omega)).trans hS.st
    · exact hS.st1
    · rw [FA' 771 (by omega), FA' 786 (by omega)]; exact hS.s1
    · exact hS.sN1
    · exact hS.s27
    · exact hS.s358
    · exact hS.s46
    · rw [FA' 812 (by omega)]; exact hS.la
    · rw [FA' 813 (by omega)]; exact hS.si
  · exact CR_congr (fun f hf => FA' f (by omega)) (AA _ (by omega) (by omega)) (AA _ (by omega) (by omega)) (fun f hf => z1 f _ (Or.inr (Or.inl rfl)) (by omega)) z3 z4 h.cr
  · rw [fA.2.2.2.1 _ _ (by unfold PL; omega)]; exact h.nw
end Link2
