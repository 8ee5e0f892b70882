/-! ===== part 96: a connection sends a segment ===== -/
/-- how much is held -/
def hldA (A : Mm) (k : Nat) : Int32 := ((mF A 804 (342 + 4 * k)) - (mF A 803 (342 + 4 * k))) - (if (mF A 809 (342 + 4 * k)) = 0 then 0 else 1)
def hldX (M : Mm) (c : Nat) : Int32 := ((mF M 1 (c + 2)) - (mF M 0 (c + 2))) - (if (mF M 8 (c + 2)) = 0 then 0 else 1)
/-- the objects of a connection in the class -/
def CnO (M : Mm) (c : Nat) : Prop := okA M 1 c ∧ (mG M 79 c) = some (c + 1) ∧ (mG M 80 c) = some (c + 2) ∧ (mG M 81 c) = some (c + 5) ∧ okA M 100 (c + 1) ∧ sLen (mS M) (c + 1) = 256 ∧ okA M 0 (c + 2) ∧ (mG M 5 (c + 2)) = some (c + 3) ∧ (mG M 6 (c + 2)) = some (c + 4) ∧ okA M 100 (c + 3) ∧ sLen (mS M) (c + 3) = 4096 ∧ okA M 101 (c + 4) ∧ sLen (mS M) (c + 4) = 128 ∧ okA M 5 (c + 5)
section Fill
variable {A M : Mm}
theorem CnO_of (hS : XS M) {c : Nat} (h : okA M 1 c) : CnO M c := ⟨h, hS.2.2 c h⟩
theorem m_held (hR : RW A) {k : Nat} (hk : k < 16) (fu : Nat) : fX12_held fu (342 + 4 * k) A = some (hldA A k, A) := by
  unfold fX12_held hldA
  simp only [gI_ok (rw_cnO hR k hk), ob_some]
  split <;> rfl
theorem m_open (hR : RW A) {k : Nat} (hk : k < 16) (fu : Nat) : fX12_open fu (342 + 4 * k) A = some ((4096 : Int32) - hldA A k, A) := by
  unfold fX12_open
  rw [rc_ok (rw_cnO hR k hk), ob_some, m_held hR hk, b2_some]
theorem x_held {c : Nat} (hc : okA M 0 (c + 2)) (fu : Nat) : fX0_held fu (c + 2) M = some (hldX M c, M) := by
  unfold fX0_held hldX
  simp only [gI_ok hc, ob_some]
  split <;> rfl
theorem x_window {c : Nat} (hc : okA M 0 (c + 2)) (fu : Nat) : fX0_window fu (c + 2) M = some ((4096 : Int32) - hldX M c, M) := by
  unfold fX0_window
  rw [rc_ok hc, ob_some, x_held hc, b2_some]
/-- what is told is noted before the segment goes -/
def payX (M : Mm) (c : Nat) (fl : Int32) : Mm := if (fl &&& 4) = 0 then sF (sF M 2 (c + 2) ((4096 : Int32) - hldX M c)) 4 (c + 2) 0 else M
theorem payX_F {c : Nat} {fl : Int32} {f a : Nat} (h : ¬ (f = 2 ∧ a = c + 2)) (h2 : ¬ (f = 4 ∧ a = c + 2)) : mF (payX M c fl) f a = mF M f a := by
  unfold payX
  split
  · rw [mF_sF, if_neg h2, mF_sF, if_neg h]
  · rfl
theorem payX_G {c : Nat} {fl : Int32} : mG (payX M c fl) = mG M := by unfold payX; split <;> rfl
theorem payX_A {c : Nat} {fl : Int32} : mA (payX M c fl) = mA M := by unfold payX; split <;> rfl
theorem payX_B {c : Nat} {fl : Int32} : mB (payX M c fl) = mB M := by unfold payX; split <;> rfl
theorem payX_S {c : Nat} {fl : Int32} : mS (payX M c fl) = mS M := by unfold payX; split <;> rfl
theorem payX_By {c : Nat} {fl : Int32} {R T : Nat → Prop} (h : Bd R T M) : Bd R T (payX M c fl) := by unfold payX; split <;> exact h
theorem x_fill_L93 (hW : XW M) {fu c len : Nat} (hf : 2000 ≤ fu) (hC : CnO M c) (hlen : len ≤ 1480) (fl : Int32) : fX9_fill_L93 fu 317 (some c) fl (nI len) M = some (nI len, wA (payX M c fl) 308 (tS (mA M 308) (mF M 257 307) (mF M 65 c) len)) := by
  obtain ⟨c1, c2, c3, c4, c5, c6, c7, c8, c9, c10, c11, c12, c13, c14⟩ := hC
  have ne1 : c ≠ c + 2 := by omega
  unfold fX9_fill_L93 fX9_fill_L121 payX
  by_cases h : (fl &&& 4) = 0
  · rw [if_pos h, if_pos h]
    have hW1 : XW (sF (sF M 2 (c + 2) ((4096 : Int32) - hldX M c)) 4 (c + 2) 0) := hW
    simp only [gR_ok c1, c3, ob_some, rc_ok c7, x_window c7, b2_some, pF_ok c7]
    rw [gR_ok (by rw [ok_sF]; exact c1), ob_some, mG_sF, c3, pZ_ok (by rw [ok_sF]; exact c7) (Or.inl rfl), ob_some, gI_ok (by rw [ok_sF, ok_sF]; exact c1), ob_some, rc_ok (xw_ok317 hW1), ob_some, x_sumUp hW1 hf hlen, ob_some]
    simp only [mF_sF, mA_sF, reduceIte, Nat.reduceEqDiff, Nat.reduceAdd, Nat.reduceMul, Nat.reduceLT, Nat.reduceLeDiff, and_true, true_and, and_false, false_and, and_self, ne_eq, not_true_eq_false, not_false_eq_true, Option.some.injEq, reduceCtorEq]
  · rw [if_neg h, if_neg h, gI_ok c1, ob_some, rc_ok (xw_ok317 hW), ob_some, x_sumUp hW hf hlen, ob_some]
/-- a segment without SYN -/
theorem x_fillP (hW : XW M) {fu c n : Nat} (hf : 2000 ≤ fu) (hC : CnO M c) (hn : n ≤ 1460) (seq fl : Int32) (hsyn : (fl &&& 2) = 0) (hal : fX1_allows fu c fl (nI n) M = some (1, M)) : fX9_fill fu 317 (some c) seq fl (nI n) M = some (nI (20 + n), wA (payX M c fl) 308 (tS (tX (mA M 308) 80 (mF M 66 c) seq (mF M 1 (c + 2)) fl ((4096 : Int32) - hldX M c)) (mF M 257 307) (mF M 65 c) (20 + n))) := by
  have hC' := hC
  obtain ⟨c1, c2, c3, c4, c5, c6, c7, -⟩ := hC'
  unfold fX9_fill fX9_fill_L23
  have e20 : (20 : Int32) + nI n = nI (20 + n) := nI_add 20 n
  rw [rc_ok c1, ob_some, hal, b2_some, if_neg (by decide)]
  simp only [gI_ok c1, gR_ok c1, c3, ob_some, gI_ok c7, rc_ok c7, x_window c7, b2_some, rc_ok (xw_ok317 hW), x_tcpHead hW, if_pos hsyn, e20]
  have hC1 : CnO (wA M 308 (tX (mA M 308) 80 (mF M 66 c) seq (mF M 1 (c + 2)) fl ((4096 : Int32) - hldX M c))) c := hC
  have hW1 : XW (wA M 308 (tX (mA M 308) 80 (mF M 66 c) seq (mF M 1 (c + 2)) fl ((4096 : Int32) - hldX M c))) := hW
  rw [x_fill_L93 hW1 hf hC1 (by omega) fl, mA_wA_self, mF_wA]
  unfold payX
  split
  · refine congrArg (fun z => some (nI (20 + n), z)) ?_
    show wA (wA (sF (sF M 2 (c + 2) ((4096 : Int32) - hldX M c)) 4 (c + 2) 0) 308 _) 308 _ = _
    rw [wA_wA]
  · rw [wA_wA]
/-- a segment with SYN -/
theorem x_fillS (hW : XW M) {fu c : Nat} (hf : 2000 ≤ fu) (hC : CnO M c) (seq : Int32) (hst : (mF M 64 c) = 1) : fX9_fill fu 317 (some c) seq 18 0 M = some (nI 24, wA (payX M c 18) 308 (tS (up4 (fun j => if j = 46 then 96 else tX (mA M 308) 80 (mF M 66 c) seq (mF M 1 (c + 2)) 18 ((4096 : Int32) - hldX M c) j) 54 33818036) (mF M 257 307) (mF M 65 c) 24)) := by
  have hC' := hC
  obtain ⟨c1, c2, c3, c4, c5, c6, c7, -⟩ := hC'
  have hal : fX1_allows fu c 18 0 M = some (1, M) := by
    unfold fX1_allows
    rw [if_neg (by decide), gI_ok c1, ob_some, hst, if_pos rfl, if_pos rfl, rN1]
  unfold fX9_fill fX9_fill_L23
  rw [rc_ok c1, ob_some, hal, b2_some, if_neg (by decide)]
  simp only [gI_ok c1, gR_ok c1, c3, ob_some, gI_ok c7, rc_ok c7, x_window c7, b2_some, rc_ok (xw_ok317 hW), x_tcpHead hW]
  rw [if_neg (by decide)]
  have hW1 : ∀ g, XW (wA M 308 g) := fun g => hW
  have p46 : pA (wA M 308 (tX (mA M 308) 80 (mF M 66 c) seq (mF M 1 (c + 2)) 18 ((4096 : Int32) - hldX M c))) 100 (some 308) (46 : Int32) (Int8.toInt32 (Int32.toInt8 (96 : Int32))) = some (wA M 308 (fun j => if j = 46 then 96 else tX (mA M 308) 80 (mF M 66 c) seq (mF M 1 (c + 2)) 18 ((4096 : Int32) - hldX M c) j)) := by
    have := pA_ok (M := wA M 308 (tX (mA M 308) 80 (mF M 66 c) seq (mF M 1 (c + 2)) 18 ((4096 : Int32) - hldX M c))) (t := 100) (a := 308) (i := 46) (v := Int8.toInt32 (Int32.toInt8 (96 : Int32))) (xw_ok308 (hW1 _)) (by rw [xw_ln308 (hW1 _)]; decide) (by decide)
    rw [mA_wA_self, wA_wA] at this
    exact this
  have p54 : ∀ g, fX11_putFour fu (some 308) (54 : Int32) 33818036 (wA M 308 g) = some (wA M 308 (up4 g 54 33818036)) := fun g => by
    have := x_put4 (M := wA M 308 g) fu (a := 308) (xw_ok308 (hW1 _)) (by rw [xw_ln308 (hW1 _)]; decide) (i := 54) (by rw [xw_ln308 (hW1 _)]; decide) 33818036
    rw [mA_wA_self, wA_wA] at this
    exact this
  have hC1 : ∀ g, CnO (wA M 308 g) c := fun g => hC
  rw [gR_ok (xw_ok317 (hW1 _)), ob_some, xw_g577_317 (hW1 _), gR_ok (xw_ok307 (hW1 _)), ob_some, xw_g256_307 (hW1 _), p46, ob_some, gR_ok (xw_ok317 (hW1 _)), ob_some, xw_g577_317 (hW1 _), gR_ok (xw_ok307 (hW1 _)), ob_some, xw_g256_307 (hW1 _), p54, ob_some]
  have := x_fill_L93 (fu := fu) (len := 24) (hW1 (up4 (fun j => if j = 46 then 96 else tX (mA M 308) 80 (mF M 66 c) seq (mF M 1 (c + 2)) 18 ((4096 : Int32) - hldX M c) j) 54 33818036)) hf (hC1 _) (by decide) 18
  refine Eq.trans this ?_
  rw [mA_wA_self, mF_wA]
  refine congrArg (fun z => some (nI 24, z)) ?_
  show wA (wA (payX M c 18) 308 _) 308 _ = _
  rw [wA_wA]
/-- the reference's answer to a SYN -/
theorem m_synOut (hR : RW A) {fu : Nat} (hf2 : 2000 ≤ fu) (to sp dp seq ack told how : Int32) :
    fX16_segmentOut fu 323 to sp dp seq ack how told 4 0 A = (fX16_ipOut fu 323 to 6 (nI 24) (wA A 331 (tS (up4 (tA (mA A 331) sp dp seq ack 96 how told) 54 33818036) (mF A 1029 323) to 24))).bind (fun M => some M) := by
  have hf : 5 ≤ fu := by omega
  unfold fX16_segmentOut fX16_segmentOut_L91
  have e80 : ((((20 : Int32) + 4) / (4 : Int32)) <<< ((4 : Int32) &&& 31)) = 96 := by decide
  have h1 := pN_le (mF A 1029 323) to 24
  have h2 := sm_le (up4 (tA (mA A 331) sp dp seq ack 96 how told) 54 33818036) 34 24
  have ma : ∀ G, fX16_added fu (some 331) (34 : Int32) (nI 24) (lN (pN (mF A 1029 323) to 24)) (wA A 331 G) = some (lN (pN (mF A 1029 323) to 24 + sm G 34 24), wA A 331 G) := fun G => by
    have hR1 : RW (wA A 331 G) := hR
    have := m_added (M := wA A 331 G) (a := 331) (f := 34) (e := 24) (s0 := pN (mF A 1029 323) to 24) (fu := fu) (rw_ok331 hR1) (by rw [rw_ln331 hR1]; decide) (by rw [rw_ln331 hR1]; decide) (by omega)
    rw [mA_wA_self] at this
    exact this
  have msx : ∀ B, fX16_sixteen fu (lN (pN (mF A 1029 323) to 24 + sm (up4 (tA (mA A 331) sp dp seq ack 96 how told) 54 33818036) 34 24)) B = some (nI (65535 - f16 (f16 (pN (mF A 1029 323) to 24 + sm (up4 (tA (mA A 331) sp dp seq ack 96 how told) 54 33818036) 34 24))), B) := fun B => m_sixteen (by omega) (by omega) B
  have e20 : (20 : Int32) + 4 + 0 = nI 24 := rfl
  have ps : ∀ B, fX16_pseudo fu 323 (mF A 1029 323) to (nI 24) B = some (lN (pN (mF A 1029 323) to 24), B) := fun B => m_pseudo fu _ _ (by decide) B
  simp only [rc_ok, ok_wA, rw_ok323 hR, ob_some, rW_wA, hR, (fun v M (h : RW M) => show fX16_put fu 323 (34 : Int32) 2 v M = some (wA M 331 (up2 (mA M 331) 34 v)) from m_put2 h hf (i := 34) (by decide) v), (fun v M (h : RW M) => show fX16_put fu 323 (36 : Int32) 2 v M = some (wA M 331 (up2 (mA M 331) 36 v)) from m_put2 h hf (i := 36) (by decide) v), (fun v M (h : RW M) => show fX16_put fu 323 (38 : Int32) 4 v M = some (wA M 331 (up4 (mA M 331) 38 v)) from m_put4 h hf (i := 38) (by decide) v), (fun v M (h : RW M) => show fX16_put fu 323 (42 : Int32) 4 v M = some (wA M 331 (up4 (mA M 331) 42 v)) from m_put4 h hf (i := 42) (by decide) v), (fun v M (h : RW M) => show fX16_put fu 323 (46 : Int32) 1 v M = some (wA M 331 (up1 (mA M 331) 46 v)) from m_put1 h hf (i := 46) (by decide) v), (fun v M (h : RW M) => show fX16_put fu 323 (47 : Int32) 1 v M = some (wA M 331 (up1 (mA M 331) 47 v)) from m_put1 h hf (i := 47) (by decide) v), (fun v M (h : RW M) => show fX16_put fu 323 (48 : Int32) 2 v M = some (wA M 331 (up2 (mA M 331) 48 v)) from m_put2 h hf (i := 48) (by decide) v), (fun v M (h : RW M) => show fX16_put fu 323 (50 : Int32) 4 v M = some (wA M 331 (up4 (mA M 331) 50 v)) from m_put4 h hf (i := 50) (by decide) v), (fun v M (h : RW M) => show fX16_put fu 323 (54 : Int32) 4 v M = some (wA M 331 (up4 (mA M 331) 54 v)) from m_put4 h hf (i := 54) (by decide) v), mA_wA_self, wA_wA, e80, if_neg (show ¬ (4 : Int32) ≤ 0 by decide), e20, gI_ok, mF_wA, ps, b2_some, gR_ok, mG_wA, rw_g1043_323 hR]
  rw [ma, b2_some]
  show b2 (fX16_sixteen fu (lN (pN (mF A 1029 323) to 24 + sm (up4 (tA (mA A 331) sp dp seq ack 96 how told) 54 33818036) 34 24)) _) _ = _
  rw [msx, b2_some]
  simp only [rc_ok, ok_wA, rw_ok323 hR, ob_some, rW_wA, hR, (fun v M (h : RW M) => show fX16_put fu 323 (50 : Int32) 2 v M = some (wA M 331 (up2 (mA M 331) 50 v)) from m_put2 h hf (i := 50) (by decide) v), mA_wA_self, wA_wA]
  rfl
end Fill
