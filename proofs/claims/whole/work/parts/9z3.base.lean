/-! ===== part 9z3: what holds when booted or not; calls when not booted ===== -/
def LB (KN KS im ig ek ty : Nat) (X : Mm) : Prop := (RW X) ∧ (XW X) ∧ (XS X) ∧ (XRR KN KS X) ∧ (Bd RM TM X) ∧ (Bd RX TX X) ∧ (JI im ig X X) ∧ (ty ≤ 65540) ∧ (mF X 1025 323 = nI ty) ∧ (mF X 1027 323 = nI im) ∧ (mF X 711 300 = nI ty) ∧ (∃ tr, mG X 710 300 = some tr ∧ okA X 100 tr ∧ ty ≤ sLen (mS X) tr ∧ 80 ≤ sLen (mS X) tr ∧ sLen (mS X) tr ≤ 65540 ∧ (∀ j, j < ty → mA X 324 j = mA X tr j) ∧ tr ≠ ig ∧ tr ≠ ek ∧ tr ≠ 308 ∧ sTy (mS X) (tr - 1) ≠ 6 ∧ sTy (mS X) (tr - 1) ≠ 2 ∧ sTy (mS X) (tr - 1) ≠ 1 ∧ sTy (mS X) (tr - 1) ≠ 0 ∧ tr ≠ 320 ∧ tr ≠ 321) ∧ (ig ≠ ek) ∧ (mG X 514 301 = some ek) ∧ (okA X 100 ek) ∧ (sLen (mS X) ek ≤ 65536) ∧ (ek ≠ 308 ∧ sTy (mS X) (ek - 1) ≠ 6 ∧ sTy (mS X) (ek - 1) ≠ 2 ∧ sTy (mS X) (ek - 1) ≠ 1 ∧ sTy (mS X) (ek - 1) ≠ 0 ∧ ek ≠ 320 ∧ ek ≠ 321) ∧ (mF X 1042 323 = 0) ∧ True
theorem LB.rw {KN KS im ig ek ty : Nat} {X : Mm} (h : LB KN KS im ig ek ty X) : RW X := h.1
theorem LB.xw {KN KS im ig ek ty : Nat} {X : Mm} (h : LB KN KS im ig ek ty X) : XW X := h.2.1
theorem LB.xs {KN KS im ig ek ty : Nat} {X : Mm} (h : LB KN KS im ig ek ty X) : XS X := h.2.2.1
theorem LB.xr {KN KS im ig ek ty : Nat} {X : Mm} (h : LB KN KS im ig ek ty X) : XRR KN KS X := h.2.2.2.1
theorem LB.ba {KN KS im ig ek ty : Nat} {X : Mm} (h : LB KN KS im ig ek ty X) : Bd RM TM X := h.2.2.2.2.1
theorem LB.bm {KN KS im ig ek ty : Nat} {X : Mm} (h : LB KN KS im ig ek ty X) : Bd RX TX X := h.2.2.2.2.2.1
theorem LB.ji {KN KS im ig ek ty : Nat} {X : Mm} (h : LB KN KS im ig ek ty X) : JI im ig X X := h.2.2.2.2.2.2.1
theorem LB.y1 {KN KS im ig ek ty : Nat} {X : Mm} (h : LB KN KS im ig ek ty X) : ty ≤ 65540 := h.2.2.2.2.2.2.2.1
theorem LB.ta {KN KS im ig ek ty : Nat} {X : Mm} (h : LB KN KS im ig ek ty X) : mF X 1025 323 = nI ty := h.2.2.2.2.2.2.2.2.1
theorem LB.sz {KN KS im ig ek ty : Nat} {X : Mm} (h : LB KN KS im ig ek ty X) : mF X 1027 323 = nI im := h.2.2.2.2.2.2.2.2.2.1
theorem LB.tm {KN KS im ig ek ty : Nat} {X : Mm} (h : LB KN KS im ig ek ty X) : mF X 711 300 = nI ty := h.2.2.2.2.2.2.2.2.2.2.1
theorem LB.tg {KN KS im ig ek ty : Nat} {X : Mm} (h : LB KN KS im ig ek ty X) : ∃ tr, mG X 710 300 = some tr ∧ okA X 100 tr ∧ ty ≤ sLen (mS X) tr ∧ 80 ≤ sLen (mS X) tr ∧ sLen (mS X) tr ≤ 65540 ∧ (∀ j, j < ty → mA X 324 j = mA X tr j) ∧ tr ≠ ig ∧ tr ≠ ek ∧ tr ≠ 308 ∧ sTy (mS X) (tr - 1) ≠ 6 ∧ sTy (mS X) (tr - 1) ≠ 2 ∧ sTy (mS X) (tr - 1) ≠ 1 ∧ sTy (mS X) (tr - 1) ≠ 0 ∧ tr ≠ 320 ∧ tr ≠ 321 := h.2.2.2.2.2.2.2.2.2.2.2.1
theorem LB.ie {KN KS im ig ek ty : Nat} {X : Mm} (h : LB KN KS im ig ek ty X) : ig ≠ ek := h.2.2.2.2.2.2.2.2.2.2.2.2.1
theorem LB.ge {KN KS im ig ek ty : Nat} {X : Mm} (h : LB KN KS im ig ek ty X) : mG X 514 301 = some ek := h.2.2.2.2.2.2.2.2.2.2.2.2.2.1
theorem LB.oe {KN KS im ig ek ty : Nat} {X : Mm} (h : LB KN KS im ig ek ty X) : okA X 100 ek := h.2.2.2.2.2.2.2.2.2.2.2.2.2.2.1
theorem LB.l2 {KN KS im ig ek ty : Nat} {X : Mm} (h : LB KN KS im ig ek ty X) : sLen (mS X) ek ≤ 65536 := h.2.2.2.2.2.2.2.2.2.2.2.2.2.2.2.1
theorem LB.sp {KN KS im ig ek ty : Nat} {X : Mm} (h : LB KN KS im ig ek ty X) : ek ≠ 308 ∧ sTy (mS X) (ek - 1) ≠ 6 ∧ sTy (mS X) (ek - 1) ≠ 2 ∧ sTy (mS X) (ek - 1) ≠ 1 ∧ sTy (mS X) (ek - 1) ≠ 0 ∧ ek ≠ 320 ∧ ek ≠ 321 := h.2.2.2.2.2.2.2.2.2.2.2.2.2.2.2.2.1
theorem LB.st {KN KS im ig ek ty : Nat} {X : Mm} (h : LB KN KS im ig ek ty X) : mF X 1042 323 = 0 := h.2.2.2.2.2.2.2.2.2.2.2.2.2.2.2.2.2.1
theorem LB.mk {KN KS im ig ek ty : Nat} {X : Mm} (rw_ : RW X) (xw_ : XW X) (xs_ : XS X) (xr_ : XRR KN KS X) (ba_ : Bd RM TM X) (bm_ : Bd RX TX X) (ji_ : JI im ig X X) (y1_ : ty ≤ 65540) (ta_ : mF X 1025 323 = nI ty) (sz_ : mF X 1027 323 = nI im) (tm_ : mF X 711 300 = nI ty) (tg_ : ∃ tr, mG X 710 300 = some tr ∧ okA X 100 tr ∧ ty ≤ sLen (mS X) tr ∧ 80 ≤ sLen (mS X) tr ∧ sLen (mS X) tr ≤ 65540 ∧ (∀ j, j < ty → mA X 324 j = mA X tr j) ∧ tr ≠ ig ∧ tr ≠ ek ∧ tr ≠ 308 ∧ sTy (mS X) (tr - 1) ≠ 6 ∧ sTy (mS X) (tr - 1) ≠ 2 ∧ sTy (mS X) (tr - 1) ≠ 1 ∧ sTy (mS X) (tr - 1) ≠ 0 ∧ tr ≠ 320 ∧ tr ≠ 321) (ie_ : ig ≠ ek) (ge_ : mG X 514 301 = some ek) (oe_ : okA X 100 ek) (l2_ : sLen (mS X) ek ≤ 65536) (sp_ : ek ≠ 308 ∧ sTy (mS X) (ek - 1) ≠ 6 ∧ sTy (mS X) (ek - 1) ≠ 2 ∧ sTy (mS X) (ek - 1) ≠ 1 ∧ sTy (mS X) (ek - 1) ≠ 0 ∧ ek ≠ 320 ∧ ek ≠ 321) (st_ : mF X 1042 323 = 0) : LB KN KS im ig ek ty X := ⟨rw_, xw_, xs_, xr_, ba_, bm_, ji_, y1_, ta_, sz_, tm_, tg_, ie_, ge_, oe_, l2_, sp_, st_, trivial⟩
section Base
variable {X : Mm} {KN KS t T im ig F ek ty nw : Nat}
theorem JJ_LB (h : JJ X X KN KS t T im ig F ek ty nw) : LB KN KS im ig ek ty X := by
  have f := h.fi
  have s := h.ts
  exact LB.mk h.rw' h.xw h.xs h.xr h.ba h.bm h.ji s.y1 s.ta s.sz s.tm s.tg s.ie f.ge f.oe f.l2 f.sp h.jl.2.2.2.2.1.2.2.2.2.2.1
theorem LB.n450 (h : LB KN KS im ig ek ty X) : 450 ≤ sN (mS X) := h.bm.2.2.2.1
theorem LB.ri (h : LB KN KS im ig ek ty X) : RX ig := h.bm.2.1 _ _ _ (by unfold RX; omega) h.ji.1
theorem LB_K {KN' KS' : Nat} (h : LB KN KS im ig ek ty X) (h1 : KN ≤ KN') (h2 : KS ≤ KS') (h3 : KN' ≤ 600300) (h4 : KS' ≤ 7302250) : LB KN' KS' im ig ek ty X :=
  LB.mk h.rw h.xw h.xs (XRR_K h.xr h1 h2 h3 h4) h.ba h.bm h.ji h.y1 h.ta h.sz h.tm h.tg h.ie h.ge h.oe h.l2 h.sp h.st
theorem op_feed0 (fu : Nat) (hfu : 5 ≤ fu) (h : LB KN KS im ig ek ty X) (h0 : Lst0 X) {KN' KS' : Nat} (k1 : KN + 1 ≤ KN') (k2 : KS + (2 * ty + 60) ≤ KS') (k3 : KN' ≤ 600300) (k4 : KS' ≤ 7302250) (a b c d e : Int32) : ∃ v X1 X2 y, fX11_feed fu 300 a b c d e X = some (v, X1) ∧ fX16_feed fu 323 a b c d e X1 = some (v, X2) ∧ (y = ty ∨ y = ty + 20) ∧ LB KN' KS' im ig ek y X2 ∧ mF X2 1028 323 = mF X 1028 323 ∧ mF X2 712 300 = mF X 712 300 := by
  have hW := h.xw
  have y1 := h.y1
  have n450 := h.n450
  obtain ⟨tr, u1, u2, u3, u4, u5, u6, u7, u8, u9, u10, u11, u12, u13, u14, u15⟩ := h.tg
  have hX := h.xr
  have hX2 := hX
  obtain ⟨_, _, _, _, -, -, -, -, -, -, -, -, -, x6, x7, x1, x2, -⟩ := hX2
  rcases x_feed (M := X) fu n450 (xw_ok300 hW) u1 u2 u3 u4 u5 h.tm (by omega) (by omega) a b c d e with ⟨q, e1⟩ | ⟨q, tr', n, X1, e1, hF⟩
  · obtain ⟨m1, -⟩ := m_feed' fu hfu h.rw h.ta y1 a b c d e
    exact ⟨-1, X, X, ty, e1, m1 q, Or.inl rfl, LB_K h (by omega) (by omega) k3 k4, rfl, rfl⟩
  · obtain ⟨w1, w2, w3, w4, w5, w6⟩ := Fd_new hW h.xs h0 n450 u2 h.ji.2.1 h.oe u7 u8 u9 u10 u11 u12 u13 u14 u15 hF
    obtain ⟨f1, f2, f3, f4, f5, f6, f7, f8, f9, f10, f11, f12, f13, f14, f15, f16⟩ := hF
    obtain ⟨s1, bm⟩ := oX11_feed fu 300 a b c d e X h.bm (by unfold RX; omega) e1
    have bA := Bd_sx h.ba s1 bm
    have hR1 : RW X1 := RW_sx h.rw (SmR_of s1 n450)
    have nr : ∀ a, 323 ≤ a → a < 450 → ¬ RX a := fun a h1 h2 => by unfold RX; omega
    have F1 : ∀ f, mF X1 f 323 = mF X f 323 := fun f => s1.1 f 323 (nr _ (by decide) (by decide))
    have A1 : ∀ a, 323 ≤ a → a < 450 → mA X1 a = mA X a := fun a h1 h2 => funext (fun i => s1.2.2.1 a i (nr a h1 h2))
    obtain ⟨-, m2⟩ := m_feed' (ty := ty) fu hfu hR1 (by rw [F1]; exact h.ta) y1 a b c d e
    have e2 := m2 q
    obtain ⟨s2, b2⟩ := oX16_feed fu 323 a b c d e X1 bA (by unfold RM; omega) e2
    have w2' := w2 (tr' - 1) (by have := f2.1; omega)
    have rt : RX tr' := bm.2.1 _ _ _ (by unfold RX; omega) f1
    have nt : ∀ a, RX a → a ≠ 324 := fun a ha e => by rw [e] at ha; unfold RX at ha; omega
    refine ⟨nI (ty + 20), X1, _, ty + 20, e1, e2, Or.inr rfl, ?_, (trM_F (by omega)).trans (F1 _), (trM_F (by omega)).trans (f10 _ (by decide))⟩
    obtain ⟨z1, z2, z3, z4, z5, z6, z7, z8, z9, z10, z11, z12⟩ := h.ji
    have yi := (f8.2 (ig - 1) (by have := z2.2.1; omega)).1
    have ye := (f8.2 (ek - 1) (by have := h.oe.2.1; omega)).1
    obtain ⟨p1, p2, p3, p4, p5, p6, p7⟩ := h.sp
    refine LB.mk hR1 (show XW X1 from XW_tr f8 hW n450) (show XS X1 from XS_tr f8 f9 hW h.xs) (show XRR KN' KS' X1 from XRR_tr f8 hX (by omega) (by omega) k3 k4) b2 (Bd_sm bm s2 b2) ?_ q ?_ ((trM_F (by omega)).trans ((F1 _).trans h.sz)) ((trM_F (by omega)).trans f7) ?_ h.ie (f13.trans h.ge) (f8.ok h.oe) (Nat.le_trans (Nat.le_of_eq (f8.2 ek h.oe.2.1).2.1) h.l2) ⟨p1, ?_, ?_, ?_, ?_, p6, p7⟩ ((trM_F (by omega)).trans ((F1 _).trans h.st))
    · refine ⟨f12.trans z1, f8.ok z2, (f8.2 ig z2.2.1).2.1.trans z3, z4, fun j hj => ?_, z6, ?_, ?_, ?_, ?_, z11, z12⟩
      · rw [trM_A (by decide), trM_A (nt ig h.ri), A1 325 (by decide) (by decide), (f8.2 ig z2.2.1).2.2.2.2.1 (Ne.symm w1.1)]
        exact z5 j hj
      · show sTy (mS X1) (ig - 1) ≠ _
        rw [yi]; exact z7
      · show sTy (mS X1) (ig - 1) ≠ _
        rw [yi]; exact z8
      · show sTy (mS X1) (ig - 1) ≠ _
        rw [yi]; exact z9
      · show sTy (mS X1) (ig - 1) ≠ _
        rw [yi]; exact z10
    · unfold trM
      rw [mF_sF, if_pos ⟨rfl, rfl⟩]
    · refine ⟨tr', f1, f2, f3, f4, f5, fun j hj => ?_, w1.1, w1.2.1, w1.2.2, ?_, ?_, ?_, ?_, w5, w6⟩
      · rw [trM_A (nt tr' rt), f6 j hj]
        show mA (wA X1 324 _) 324 j = _
        rw [mA_wA_self, A1 324 (by decide) (by decide)]
        unfold p20
        by_cases z : ty ≤ j ∧ j < ty + 20
        · rw [if_pos z, if_pos z]
        · rw [if_neg z, if_neg z]
          exact u6 j (by omega)
      · show sTy (mS X1) (tr' - 1) ≠ _
        rw [w4]; exact w2'.1
      · show sTy (mS X1) (tr' - 1) ≠ _
        rw [w4]; exact w2'.2.1
      · show sTy (mS X1) (tr' - 1) ≠ _
        rw [w4]; exact w2'.2.2.1
      · show sTy (mS X1) (tr' - 1) ≠ _
        rw [w4]; exact w2'.2.2.2
    · show sTy (mS X1) (ek - 1) ≠ _
      rw [ye]; exact p2
    · show sTy (mS X1) (ek - 1) ≠ _
      rw [ye]; exact p3
    · show sTy (mS X1) (ek - 1) ≠ _
      rw [ye]; exact p4
    · show sTy (mS X1) (ek - 1) ≠ _
      rw [ye]; exact p5
theorem op_end0 (fu : Nat) (h : LB KN KS im ig ek ty X) (a1 : Int32) : ∃ v X1 X2 y, fX11_end fu 300 a1 X = some (v, X1) ∧ fX16_end fu 323 a1 X1 = some (v, X2) ∧ y ≤ ty ∧ LB KN KS im ig ek y X2 ∧ mF X2 1028 323 = mF X 1028 323 ∧ mF X2 712 300 = mF X 712 300 := by
  have y1 := h.y1
  rw [x_end h.xw fu a1, h.tm]
  by_cases c : ¬ a1 < 0 ∧ a1 ≤ nI ty
  · obtain ⟨y, y2, rfl⟩ := nI_of c.1
    have hy : y ≤ ty := (nI_leI y2 (by omega)).mp c.2
    have hR1 : RW (sF X 711 300 (nI y)) := h.rw
    have e1 : mF (sF X 711 300 (nI y)) 1025 323 = nI ty := by rw [mF_sF, if_neg (by omega)]; exact h.ta
    have e2 : fX16_end fu 323 (nI y) (sF X 711 300 (nI y)) = some (nI y, sF (sF X 711 300 (nI y)) 1025 323 (nI y)) := by rw [m_end hR1 fu, e1, if_pos c]
    have b1 : Bd RX TX (sF X 711 300 (nI y)) := Bd_same h.bm rfl rfl rfl rfl
    have F2 : ∀ f a, ¬ (f = 711 ∧ a = 300) → ¬ (f = 1025 ∧ a = 323) → mF (sF (sF X 711 300 (nI y)) 1025 323 (nI y)) f a = mF X f a := fun f a q1 q2 => by rw [mF_sF, if_neg q2, mF_sF, if_neg q1]
    obtain ⟨tr, g1, g2, g3, g4, g5, g6, g7⟩ := h.tg
    refine ⟨nI y, sF X 711 300 (nI y), sF (sF X 711 300 (nI y)) 1025 323 (nI y), y, by rw [if_pos c], e2, hy, ?_, F2 _ _ (by omega) (by omega), F2 _ _ (by omega) (by omega)⟩
    refine LB.mk h.rw h.xw h.xs h.xr (Bd_same h.ba rfl rfl rfl rfl) (Bd_same h.bm rfl rfl rfl rfl) h.ji (by omega) (by rw [mF_sF, if_pos ⟨rfl, rfl⟩]) ((F2 _ _ (by omega) (by omega)).trans h.sz) (by rw [mF_sF, if_neg (by omega), mF_sF, if_pos ⟨rfl, rfl⟩]) ⟨tr, g1, g2, Nat.le_trans hy g3, g4, g5, fun j hj => g6 j (by omega), g7⟩ h.ie h.ge h.oe h.l2 h.sp ((F2 _ _ (by omega) (by omega)).trans h.st)
  · refine ⟨-1, X, X, ty, by rw [if_neg c], ?_, Nat.le_refl _, h, rfl, rfl⟩
    rw [m_end h.rw fu, h.ta, if_neg c]
theorem op_damage0 (fu : Nat) (hfu : 100 ≤ fu) (h : LB KN KS im ig ek ty X) (n1 : mF X 1028 323 = 0) (n2 : mF X 712 300 = 0) (a1 a2 : Int32) : ∃ v X1 X2, fX11_damage fu 300 a1 a2 X = some (v, X1) ∧ fX16_damage fu 323 a1 a2 X1 = some (v, X2) ∧ LB KN KS im ig ek ty X2 ∧ mF X2 1028 323 = 0 ∧ mF X2 712 300 = 0 := by
  have hR := h.rw
  have hW := h.xw
  have o := rw_ok323 hR
  have o3 := xw_ok300 hW
  have o1 := xw_ok301 hW
  have ri := h.ri
  obtain ⟨z1, z2, z3, z4, z5, z6, z7⟩ := h.ji
  unfold fX11_damage
  by_cases c1 : a1 < 0
  · refine ⟨0, X, X, by rw [if_pos c1, rN0], ?_, h, n1, n2⟩
    unfold fX16_damage
    rw [if_pos c1, rN0]
  · by_cases c2 : nI im ≤ a1
    · refine ⟨0, X, X, ?_, ?_, h, n1, n2⟩
      · rw [if_neg c1, gR_ok o3, ob_some, xw_g704_300 hW, gR_ok o1, ob_some, z1, aL_ok z2 z3, ob_some, if_pos c2, rN0]
      · unfold fX16_damage
        rw [if_neg c1, gI_ok o, ob_some, h.sz, if_neg (Int32.not_lt.mpr c2), rN0]
    · obtain ⟨i, i1, rfl⟩ := nI_rng (n := im) (by omega) c1 c2
      have hx := isB_w (Int8.toInt32 (Int32.toInt8 a2))
      generalize hxx : Int8.toInt32 (Int32.toInt8 (Int8.toInt32 (Int32.toInt8 a2))) = x at hx
      have hR1 : RW (sA X ig i x) := hR
      obtain ⟨s1, b1⟩ := sA_own (a := ig) (i := i) h.bm ri (fun _ => hx)
      have bA := Bd_sx h.ba s1 b1
      obtain ⟨s2, b2⟩ := sA_own (a := 325) (i := i) bA (by unfold RM; omega) (fun _ => hx)
      have ne : ig ≠ 325 := fun e => by rw [e] at ri; unfold RX at ri; omega
      refine ⟨1, sA X ig i x, sA (sA X ig i x) 325 i x, ?_, ?_, ?_, n1, n2⟩
      · rw [if_neg c1, gR_ok o3, ob_some, xw_g704_300 hW, gR_ok o1, ob_some, z1, aL_ok z2 z3, ob_some, if_neg c2, gI_ok o3, ob_some, n2, if_pos rfl]
        unfold fX11_damage_L35
        rw [gR_ok o3, ob_some, xw_g704_300 hW, gR_ok o1, ob_some, z1, pA_ok z2 (by rw [z3]; omega) (by omega), ob_some, rN1, hxx, sA_wA]
      · have o' : okA (sA X ig i x) 16 323 := o
        have sz : mF (sA X ig i x) 1027 323 = nI im := h.sz
        have bo : mF (sA X ig i x) 1028 323 = 0 := n1
        unfold fX16_damage
        rw [if_neg c1, gI_ok o', ob_some, sz, if_pos (Int32.not_le.mp c2)]
        obtain ⟨m, rfl⟩ : ∃ m, fu = m + 1 := ⟨fu - 1, by omega⟩
        rw [fX16_damage_L16, if_neg (by decide), gI_ok o', ob_some, bo, if_pos rfl]
        unfold fX16_damage_L79
        rw [gR_ok o', ob_some, rw_g1026_323 hR1, pA_ok (rw_ok325 hR1) (by rw [rw_ln325 hR1]; omega) (by omega), ob_some, rN1, hxx, sA_wA, sA_wA]
      · obtain ⟨tr, t1, t2, t3, t4, t5, t6, t7, t8⟩ := h.tg
        have rt : RX tr := h.bm.2.1 _ _ _ (by unfold RX; omega) t1
        refine LB.mk hR hW h.xs h.xr b2 (Bd_sm b1 s2 b2) ⟨z1, z2, z3, z4, fun j hj => ?_, z6, z7⟩ h.y1 h.ta h.sz h.tm ⟨tr, t1, t2, t3, t4, t5, fun j hj => ?_, t7, t8⟩ h.ie h.ge h.oe h.l2 h.sp h.st
        · rw [mA_sA, mA_sA, mA_sA, mA_sA]
          by_cases e : j = i
          · rw [if_pos ⟨rfl, e⟩, if_neg (fun y => ne y.1), if_pos ⟨rfl, e⟩]
          · rw [if_neg (fun y => e y.2), if_neg (fun y => e y.2), if_neg (fun y => e y.2), if_neg (fun y => e y.2)]
            exact z5 j hj
        · rw [mA_sA, mA_sA, mA_sA, mA_sA, if_neg (by omega), if_neg (fun y => by have := y.1; rw [← this] at ri; unfold RX at ri; omega), if_neg (fun y => by have := y.1; rw [this] at rt; unfold RX at rt; omega), if_neg (fun y => t7 y.1)]
          exact t6 j hj
/-! what is asked for, when not booted -/
theorem n_now (fu : Nat) (h : LB KN KS im ig ek ty X) (n1 : mF X 1028 323 = 0) (n2 : mF X 712 300 = 0) : ∃ v, fX16_now fu 323 X = some (v, X) ∧ fX11_now fu 300 X = some (v, X) :=
  ⟨-1, by rw [m_now h.rw, n1, if_pos rfl], by rw [x_now h.xw, n2, if_pos rfl]⟩
theorem n_sent (fu : Nat) (h : LB KN KS im ig ek ty X) (n1 : mF X 1028 323 = 0) (n2 : mF X 712 300 = 0) : ∃ v, fX16_sent fu 323 X = some (v, X) ∧ fX11_sent fu 300 X = some (v, X) := by
  refine ⟨-1, ?_, ?_⟩
  · unfold fX16_sent
    rw [gI_ok (rw_ok323 h.rw), ob_some, n1, if_pos rfl]
  · unfold fX11_sent
    rw [gI_ok (xw_ok300 h.xw), ob_some, n2, if_pos rfl]
theorem n_slot (fu : Nat) (h : LB KN KS im ig ek ty X) (n1 : mF X 1028 323 = 0) (n2 : mF X 712 300 = 0) (a1 : Int32) : fX16_slot fu 323 a1 X = some (-1, X) ∧ fX11_frameBack fu 300 a1 X = some (none, X) := by
  refine ⟨?_, ?_⟩
  · unfold fX16_slot
    rw [gI_ok (rw_ok323 h.rw), ob_some, n1, if_pos rfl]
  · unfold fX11_frameBack
    rw [gI_ok (xw_ok300 h.xw), ob_some, n2, if_pos rfl]
theorem n_length (fu : Nat) (h : LB KN KS im ig ek ty X) (n1 : mF X 1028 323 = 0) (n2 : mF X 712 300 = 0) (a1 : Int32) : ∃ v, fX16_length fu 323 a1 X = some (v, X) ∧ fX11_length fu 300 a1 X = some (v, X) := by
  obtain ⟨e1, e2⟩ := n_slot fu h n1 n2 a1
  refine ⟨-1, ?_, ?_⟩
  · unfold fX16_length
    rw [rc_ok (rw_ok323 h.rw), ob_some, e1, b2_some, if_neg (by decide)]
  · unfold fX11_length
    rw [rc_ok (xw_ok300 h.xw), ob_some, e2, b2_some, if_pos rfl]
theorem n_time (fu : Nat) (h : LB KN KS im ig ek ty X) (n1 : mF X 1028 323 = 0) (n2 : mF X 712 300 = 0) (a1 : Int32) : ∃ v, fX16_time fu 323 a1 X = some (v, X) ∧ fX11_time fu 300 a1 X = some (v, X) := by
  obtain ⟨e1, e2⟩ := n_slot fu h n1 n2 a1
  refine ⟨-1, ?_, ?_⟩
  · unfold fX16_time
    rw [rc_ok (rw_ok323 h.rw), ob_some, e1, b2_some, if_neg (by decide)]
  · unfold fX11_time
    rw [rc_ok (xw_ok300 h.xw), ob_some, e2, b2_some, if_pos rfl]
theorem n_at (fu : Nat) (h : LB KN KS im ig ek ty X) (n1 : mF X 1028 323 = 0) (n2 : mF X 712 300 = 0) (a1 a2 : Int32) : ∃ v, fX16_at fu 323 a1 a2 X = some (v, X) ∧ fX11_at fu 300 a1 a2 X = some (v, X) := by
  obtain ⟨e1, e2⟩ := n_slot fu h n1 n2 a1
  refine ⟨-1, ?_, ?_⟩
  · unfold fX16_at
    rw [rc_ok (rw_ok323 h.rw), ob_some, e1, b2_some, if_pos (by decide)]
  · unfold fX11_at
    rw [rc_ok (xw_ok300 h.xw), ob_some, e2, b2_some, if_pos rfl]
theorem n_state (fu : Nat) (h : LB KN KS im ig ek ty X) (n1 : mF X 1028 323 = 0) (n2 : mF X 712 300 = 0) (a1 : Int32) : ∃ v, ¬ 0 < v ∧ fX16_state fu 323 a1 X = some (v, X) ∧ fX11_state fu 300 a1 X = some (v, X) := by
  unfold fX16_state fX11_state
  by_cases c1 : a1 < 0
  · exact ⟨-1, by decide, by rw [if_pos c1], by rw [if_pos c1]⟩
  · by_cases c2 : a1 < (16 : Int32)
    · refine ⟨0, by decide, ?_, ?_⟩
      · rw [if_neg c1, if_pos c2, gI_ok (rw_ok323 h.rw), ob_some, n1, if_pos rfl]
      · unfold fX11_connectionAt
        rw [if_neg c1, if_pos c2, rc_ok (xw_ok300 h.xw), ob_some, gI_ok (xw_ok300 h.xw), ob_some, n2, if_pos rfl, b2_some, if_pos rfl]
    · exact ⟨-1, by decide, by rw [if_neg c1, if_neg c2], by rw [if_neg c1, if_neg c2]⟩
theorem n_look (fu : Nat) (h : LB KN KS im ig ek ty X) (n1 : mF X 1028 323 = 0) (n2 : mF X 712 300 = 0) (a1 a2 : Int32) : ∃ v, fX16_look fu 323 a1 a2 X = some (v, X) ∧ fX11_look fu 300 a1 a2 X = some (v, X) := by
  obtain ⟨v, s0, s1, -⟩ := n_state fu h n1 n2 a1
  refine ⟨4294967296, ?_, ?_⟩
  · unfold fX16_look
    rw [rc_ok (rw_ok323 h.rw), ob_some, s1, b2_some, if_neg s0]
  · unfold fX11_look fX11_connectionAt
    rw [rc_ok (xw_ok300 h.xw), ob_some, gI_ok (xw_ok300 h.xw), ob_some, n2, if_pos rfl, b2_some, if_pos rfl]
theorem n_cached (fu : Nat) (h : LB KN KS im ig ek ty X) (n1 : mF X 1028 323 = 0) (n2 : mF X 712 300 = 0) (a1 : Int32) : ∃ v, fX16_cached fu 323 a1 X = some (v, X) ∧ fX11_cached fu 300 a1 X = some (v, X) := by
  refine ⟨0, ?_, ?_⟩
  · unfold fX16_cached
    rw [gI_ok (rw_ok323 h.rw), ob_some, n1, if_pos rfl, rN0]
  · unfold fX11_cached
    rw [gI_ok (xw_ok300 h.xw), ob_some, n2, if_pos rfl, rN0]
theorem n_waiting (fu : Nat) (hfu : 1 ≤ fu) (h : LB KN KS im ig ek ty X) (n1 : mF X 1028 323 = 0) (n2 : mF X 712 300 = 0) : ∃ v, fX16_waiting fu 323 X = some (v, X) ∧ fX11_waiting fu 300 X = some (v, X) := by
  refine ⟨0, ?_, ?_⟩
  · unfold fX16_waiting
    obtain ⟨m, rfl⟩ : ∃ m, fu = m + 1 := ⟨fu - 1, by omega⟩
    rw [fX16_waiting_L4, if_neg (by decide), gI_ok (rw_ok323 h.rw), ob_some, n1, if_pos rfl]
  · unfold fX11_waiting
    rw [gI_ok (xw_ok300 h.xw), ob_some, n2, if_pos rfl]
theorem n_counted (fu : Nat) (h : LB KN KS im ig ek ty X) (n1 : mF X 1028 323 = 0) (n2 : mF X 712 300 = 0) (a1 : Int32) : ∃ v, fX16_counted fu 323 a1 X = some (v, X) ∧ fX11_counted fu 300 a1 X = some (v, X) := by
  refine ⟨-1, ?_, ?_⟩
  · unfold fX16_counted
    rw [gI_ok (rw_ok323 h.rw), ob_some, n1, if_pos rfl]
  · unfold fX11_counted
    rw [gI_ok (xw_ok300 h.xw), ob_some, n2, if_pos rfl]
theorem n_strays (fu : Nat) (h : LB KN KS im ig ek ty X) (n2 : mF X 712 300 = 0) : ∃ v, fX16_strays fu 323 X = some (v, X) ∧ fX11_strays fu 300 X = some (v, X) := by
  refine ⟨0, ?_, ?_⟩
  · unfold fX16_strays
    rw [gI_ok (rw_ok323 h.rw), ob_some, h.st]
  · unfold fX11_strays
    rw [gI_ok (xw_ok300 h.xw), ob_some, n2, if_pos rfl]
theorem n_arrive (fu : Nat) (h : LB KN KS im ig ek ty X) (n1 : mF X 1028 323 = 0) (n2 : mF X 712 300 = 0) (a1 : Int32) : ∃ v, fX16_arrive fu 323 a1 X = some (v, X) ∧ fX11_arrive fu 300 a1 X = some (v, X) := by
  refine ⟨-1, ?_, ?_⟩
  · unfold fX16_arrive fX16_refused
    rw [rc_ok (rw_ok323 h.rw), ob_some, gI_ok (rw_ok323 h.rw), ob_some, n1, if_pos rfl, b2_some, if_neg (by decide)]
  · unfold fX11_arrive fX11_refusal
    rw [rc_ok (xw_ok300 h.xw), ob_some, gI_ok (xw_ok300 h.xw), ob_some, n2, if_pos rfl, b2_some, if_neg (by decide)]
theorem n_pass (fu : Nat) (h : LB KN KS im ig ek ty X) (n1 : mF X 1028 323 = 0) (n2 : mF X 712 300 = 0) (a1 : Int32) : ∃ v, fX16_pass fu 323 a1 X = some (v, X) ∧ fX11_pass fu 300 a1 X = some (v, X) := by
  refine ⟨-1, ?_, ?_⟩
  · unfold fX16_pass fX16_refused
    rw [rc_ok (rw_ok323 h.rw), ob_some, gI_ok (rw_ok323 h.rw), ob_some, n1, if_pos rfl, b2_some, if_neg (by decide)]
  · unfold fX11_pass fX11_refusal
    rw [rc_ok (xw_ok300 h.xw), ob_some, gI_ok (xw_ok300 h.xw), ob_some, n2, if_pos rfl, b2_some, if_neg (by decide)]
end Base
