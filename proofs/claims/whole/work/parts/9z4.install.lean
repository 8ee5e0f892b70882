/-! ===== part 9z4: install ===== -/
section Inst
variable {A X : Mm} {KN KS im ig ek ty : Nat}
def cpI (A : Mm) (k : Nat) : Nat → Int32 := fun j => if j < k then mA A 324 j else mA A 325 j
theorem m_instL (fu : Nat) (hR : RW A) (hB : By A) (hy : mF A 1025 323 = nI ty) (h1 : ty ≤ 65535) : ∀ n k, k ≤ ty → ty < k + n → fX16_install_L13 fu n 323 (nI k) (wA A 325 (cpI A k)) = some (nI ty, sF (sF (sF (wA A 325 (cpI A ty)) 1027 323 (nI ty)) 1025 323 0) 1028 323 0)
  | 0, k, h2, h3 => absurd h3 (by omega)
  | n + 1, k, h2, h3 => by
    have hR1 : ∀ G, RW (wA A 325 G) := fun _ => hR
    have o := fun G => rw_ok323 (hR1 G)
    have e1 : ∀ G, mF (wA A 325 G) 1025 323 = nI ty := fun _ => hy
    rw [fX16_install_L13, gI_ok (o _), ob_some, e1]
    by_cases q : ty ≤ k
    · have : k = ty := by omega
      subst this
      rw [if_pos (Int32.le_refl _), ob_some, pF_ok (o _), ob_some]
      have o2 : okA (sF (wA A 325 (cpI A k)) 1027 323 (nI k)) 16 323 := o _
      have o3 : okA (sF (sF (wA A 325 (cpI A k)) 1027 323 (nI k)) 1025 323 0) 16 323 := o _
      have o4 : okA (sF (sF (sF (wA A 325 (cpI A k)) 1027 323 (nI k)) 1025 323 0) 1028 323 0) 16 323 := o _
      rw [pF_ok o2, ob_some, pZ_ok o3 (Or.inl rfl), ob_some, gI_ok o4, ob_some, mF_sF, if_neg (by omega), mF_sF, if_neg (by omega), mF_sF, if_pos ⟨rfl, rfl⟩]
    · have e2 : mA (wA A 325 (cpI A k)) 324 = mA A 324 := mA_wA_ne (by decide)
      have b := hB 324 k (rw_ok324 hR).2.2
      unfold isB at b
      rw [if_neg (nI_ge (by omega) (by omega)), gR_ok (o _), ob_some, rw_g1026_323 (hR1 _), gR_ok (o _), ob_some, rw_g1024_323 (hR1 _), gA_ok (rw_ok324 (hR1 _)) (by rw [rw_ln324 (hR1 _)]; omega) (by omega), ob_some, e2, b, pA_ok (rw_ok325 (hR1 _)) (by rw [rw_ln325 (hR1 _)]; omega) (by omega), ob_some, nI_1, mA_wA_self, wA_wA]
      rw [← m_instL fu hR hB hy h1 n (k + 1) (by omega) (by omega)]
      congr 2
      funext j
      unfold cpI
      by_cases z : j = k
      · rw [if_pos z, if_pos (by omega), z]
      · rw [if_neg z]
        by_cases z2 : j < k
        · rw [if_pos z2, if_pos (by omega)]
        · rw [if_neg z2, if_neg (by omega)]
theorem m_inst (fu : Nat) (hfu : 70000 ≤ fu) (hR : RW A) (hB : By A) (hy : mF A 1025 323 = nI ty) (h0 : ty ≤ 65540) : (65535 < ty → fX16_install fu 323 A = some (-1, A)) ∧ (ty ≤ 65535 → fX16_install fu 323 A = some (nI ty, sF (sF (sF (wA A 325 (cpI A ty)) 1027 323 (nI ty)) 1025 323 0) 1028 323 0)) := by
  have o := rw_ok323 hR
  unfold fX16_install
  rw [gI_ok o, ob_some, hy]
  refine ⟨fun q => ?_, fun q => ?_⟩
  · rw [if_neg (show ¬ nI ty ≤ (65535 : Int32) from nI_ge (b := ty) (a := 65535) q (by omega))]
  · rw [if_pos (show nI ty ≤ (65535 : Int32) from nI_le (b := 65535) q (by decide))]
    have e : wA A 325 (cpI A 0) = A := by
      have : cpI A 0 = mA A 325 := funext (fun j => if_neg (by omega))
      rw [this, wA_mA]
    have := m_instL fu hR hB hy q fu 0 (by omega) (by omega)
    rw [e] at this
    exact this
theorem op_install (fu : Nat) (hfu : 70000 ≤ fu) (h : LB KN KS im ig ek ty X) (h0 : Lst0 X) {KN' KS' : Nat} (k1 : KN + 1 ≤ KN') (k2 : KS + ty ≤ KS') (k3 : KN' ≤ 600300) (k4 : KS' ≤ 7302250) : ∃ v X1 X2, fX11_install fu 300 X = some (v, X1) ∧ fX16_install fu 323 X1 = some (v, X2) ∧ ((65535 < ty ∧ X2 = X) ∨ ∃ ig', LB KN' KS' ty ig' ek 0 X2 ∧ mF X2 1028 323 = 0 ∧ mF X2 712 300 = 0) := by
  have hW := h.xw
  have y1 := h.y1
  have n450 := h.n450
  have o3 := xw_ok300 hW
  have hX := h.xr
  have hX2 := hX
  obtain ⟨_, _, _, _, -, -, -, -, -, -, -, -, -, x6, x7, x1, x2, -⟩ := hX2
  obtain ⟨tr, u1, u2, u3, u4, u5, u6, u7, u8, u9, u10, u11, u12, u13, u14, u15⟩ := h.tg
  by_cases q : ty ≤ 65535
  · obtain ⟨G, c1, c2⟩ := x_copyOf (M := X) fu (a := tr) (n := ty) u2 u5 (by omega) (by omega) (by omega)
    obtain ⟨o2, l2⟩ := nT_ok (M := X) (n := ty) (G := G) (by omega)
    have T := nT_tr (M := X) (tr := sN (mS X)) (n := ty) (G := G)
    have o8 : okA (nT X ty G) 8 301 := T.ok (xw_ok301 hW)
    generalize hM1 : sG (nT X ty G) 512 301 (some (sN (mS X))) = M1
    have S1 : mS M1 = mS (nT X ty G) := by subst hM1; rfl
    have ok1 : ∀ t a, okA (nT X ty G) t a → okA M1 t a := fun t a h => by unfold okA at *; rw [S1]; exact h
    have o4 : okA M1 11 300 := ok1 _ _ (T.ok o3)
    have o5 : okA (sF M1 711 300 0) 11 300 := o4
    have e1 : fX11_install fu 300 X = some (nI ty, sF (sF M1 711 300 0) 712 300 0) := by
      unfold fX11_install fX8_keep
      rw [gI_ok o3, ob_some, h.tm, if_pos (show nI ty ≤ (65535 : Int32) from nI_le (b := 65535) q (by decide)), ob_some, gR_ok o3, ob_some, xw_g704_300 hW, gR_ok o3, ob_some, u1, rc_ok (xw_ok301 hW), ob_some, if_neg (nI_pos (by omega)), c1, b2_some, pG_ok o8, ob_some, hM1, ob_some, pF_ok o4, ob_some, pZ_ok o5 (Or.inl rfl), ob_some]
    generalize hX1 : sF (sF M1 711 300 0) 712 300 0 = X1 at e1
    have gX : ∀ f a, ¬ (f = 512 ∧ a = 301) → mG X1 f a = mG X f a := fun f a h => by subst hX1; subst hM1; show mG (sG (nT X ty G) 512 301 (some (sN (mS X)))) f a = _; rw [mG_sG, if_neg h]; rfl
    have gN : mG X1 512 301 = some (sN (mS X)) := by subst hX1; subst hM1; show mG (sG (nT X ty G) 512 301 (some (sN (mS X)))) 512 301 = _; rw [mG_sG, if_pos ⟨rfl, rfl⟩]
    have SX : mS X1 = mS (nT X ty G) := by subst hX1; exact S1
    have AX : mA X1 = mA (nT X ty G) := by subst hX1; subst hM1; rfl
    have BX : mB X1 = mB (nT X ty G) := by subst hX1; subst hM1; rfl
    have FX : ∀ f a, ¬ (a = 300 ∧ (f = 711 ∨ f = 712)) → mF X1 f a = mF X f a := fun f a h => by subst hX1; subst hM1; rw [mF_sF, if_neg (fun e => h ⟨e.2, Or.inr e.1⟩), mF_sF, if_neg (fun e => h ⟨e.2, Or.inl e.1⟩)]; rfl
    have F11 : mF X1 711 300 = 0 := by subst hX1; rw [mF_sF, if_neg (by omega), mF_sF, if_pos ⟨rfl, rfl⟩]
    have F12 : mF X1 712 300 = 0 := by subst hX1; rw [mF_sF, if_pos ⟨rfl, rfl⟩]
    have hT : TrQ (sN (mS X)) X X1 := by
      refine ⟨by rw [SX]; exact Nat.le_succ _, fun a' ha => ?_⟩
      obtain ⟨t1, t2, t3, t4, t5, t6⟩ := T.2 a' ha
      exact ⟨by rw [SX]; exact t1, by rw [SX]; exact t2, fun f h1 h2 => FX f a' h1, fun f h1 h2 => gX f a' (fun e => h2 ⟨e.2, Or.inl e.1⟩), fun h1 => by rw [AX]; exact t5 h1, by rw [BX]; exact t6⟩
    have n1 : Nw100 X X1 := fun t' a' o => by
      unfold okA at o
      rw [SX] at o
      exact nT_100 t' a' o
    obtain ⟨s1, bm⟩ := oX11_install fu 300 X h.bm (by unfold RX; omega) e1
    have bA := Bd_sx h.ba s1 bm
    have hR1 : RW X1 := RW_sx h.rw (SmR_of s1 n450)
    have y2 : mF X1 1025 323 = nI ty := (FX _ _ (by omega)).trans h.ta
    obtain ⟨-, m2⟩ := m_inst fu hfu hR1 bm.2.2.2.2 y2 y1
    have e2 := m2 q
    obtain ⟨s2, b2⟩ := oX16_install fu 323 X1 bA (by unfold RM; omega) e2
    have F2 : ∀ f a, ¬ (a = 323 ∧ (f = 1025 ∨ f = 1027 ∨ f = 1028)) → mF (sF (sF (sF (wA X1 325 (cpI X1 ty)) 1027 323 (nI ty)) 1025 323 0) 1028 323 0) f a = mF X1 f a := fun f a h => by
      rw [mF_sF, if_neg (fun e => h ⟨e.2, Or.inr (Or.inr e.1)⟩), mF_sF, if_neg (fun e => h ⟨e.2, Or.inl e.1⟩), mF_sF, if_neg (fun e => h ⟨e.2, Or.inr (Or.inl e.1)⟩)]
      rfl
    have lt := last_ty h.xs h0 (a := sN (mS X) - 1) (by omega) (by omega)
    have tp := (hT.2 (sN (mS X) - 1) (by omega)).1
    have te := (hT.2 (ek - 1) (by have := h.oe.2.1; omega)).1
    have tt := (hT.2 (tr - 1) (by have := u2.2.1; omega)).1
    have ekl := h.oe.2.1
    have trl := u2.2.1
    obtain ⟨p1, p2, p3, p4, p5, p6, p7⟩ := h.sp
    refine ⟨nI ty, X1, _, e1, e2, Or.inr ⟨sN (mS X), ?_, ?_, (F2 _ _ (by omega)).trans F12⟩⟩
    · refine LB.mk hR1 (show XW X1 from XW_tr hT hW n450) (show XS X1 from XS_tr hT n1 hW h.xs) (show XRR KN' KS' X1 from XRR_tr hT hX (by rw [SX]; show KN + (sN (mS X) + 1) ≤ _; omega) (by rw [SX]; show KS + (sSl (mS X) + ty) ≤ _; omega) k3 k4) b2 (Bd_sm bm s2 b2) ⟨gN, ?_, ?_, q, fun j hj => ?_, by omega, ?_, ?_, ?_, ?_, by omega, by omega⟩ (by omega) ?_ ?_ ((F2 _ _ (by omega)).trans F11) ⟨tr, (gX _ _ (by omega)).trans u1, hT.ok u2, by omega, ?_, ?_, fun j hj => by omega, by omega, u8, u9, ?_, ?_, ?_, ?_, u14, u15⟩ (by omega) ((gX _ _ (by omega)).trans h.ge) (hT.ok h.oe) ?_ ⟨p1, ?_, ?_, ?_, ?_, p6, p7⟩ ((F2 _ _ (by omega)).trans ((FX _ _ (by omega)).trans h.st))
      · have := ok1 _ _ o2
        subst hX1; exact this
      · show sLen (mS X1) _ = _
        rw [SX]; exact l2
      · show mA (wA X1 325 (cpI X1 ty)) 325 j = mA (wA X1 325 (cpI X1 ty)) (sN (mS X)) j
        rw [mA_wA_self, mA_wA_ne (by omega), AX, nT_N]
        unfold cpI
        rw [if_pos hj, AX, nT_A (by omega), c2 j hj (by omega)]
        exact u6 j hj
      · show sTy (mS X1) _ ≠ _
        rw [tp]; exact lt.1
      · show sTy (mS X1) _ ≠ _
        rw [tp]; exact lt.2.1
      · show sTy (mS X1) _ ≠ _
        rw [tp]; exact lt.2.2.1
      · show sTy (mS X1) _ ≠ _
        rw [tp]; exact lt.2.2.2
      · rw [mF_sF, if_neg (by omega), mF_sF, if_pos ⟨rfl, rfl⟩]; rfl
      · rw [mF_sF, if_neg (by omega), mF_sF, if_neg (by omega), mF_sF, if_pos ⟨rfl, rfl⟩]
      · show 80 ≤ sLen (mS X1) _
        rw [(hT.2 tr trl).2.1]; exact u4
      · show sLen (mS X1) _ ≤ _
        rw [(hT.2 tr trl).2.1]; exact u5
      · show sTy (mS X1) _ ≠ _
        rw [tt]; exact u10
      · show sTy (mS X1) _ ≠ _
        rw [tt]; exact u11
      · show sTy (mS X1) _ ≠ _
        rw [tt]; exact u12
      · show sTy (mS X1) _ ≠ _
        rw [tt]; exact u13
      · show sLen (mS X1) _ ≤ _
        rw [(hT.2 ek ekl).2.1]; exact h.l2
      · show sTy (mS X1) _ ≠ _
        rw [te]; exact p2
      · show sTy (mS X1) _ ≠ _
        rw [te]; exact p3
      · show sTy (mS X1) _ ≠ _
        rw [te]; exact p4
      · show sTy (mS X1) _ ≠ _
        rw [te]; exact p5
    · rw [mF_sF, if_pos ⟨rfl, rfl⟩]
  · have e1 : fX11_install fu 300 X = some (-1, X) := by
      unfold fX11_install
      rw [gI_ok o3, ob_some, h.tm, if_neg (show ¬ nI ty ≤ (65535 : Int32) from nI_ge (b := ty) (a := 65535) (by omega) (by omega))]
    obtain ⟨m1, -⟩ := m_inst fu hfu h.rw h.bm.2.2.2.2 h.ta y1
    exact ⟨-1, X, X, e1, m1 (by omega), Or.inl ⟨by omega, rfl⟩⟩
end Inst
