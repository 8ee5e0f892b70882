/-! ===== part 95: segments go out ===== -/
/-- what the numbers of both sides, the protocol and the length add to the sum -/
def pN (x y : Int32) (n : Nat) : Nat := x.toBitVec.toNat / 65536 + x.toBitVec.toNat % 65536 + y.toBitVec.toNat / 65536 + y.toBitVec.toNat % 65536 + 6 + n
theorem tn_lt (x : Int32) : x.toBitVec.toNat < 2 ^ 32 := x.toBitVec.isLt
theorem pN_le (x y : Int32) (n : Nat) : pN x y n ≤ 262146 + n := by
  have h1 := tn_lt x
  have h2 := tn_lt y
  unfold pN
  omega
theorem ushr16 (x : Int32) : ushr x (16 : Int32) = nI (x.toBitVec.toNat / 65536) := by
  obtain ⟨n, hn, rfl⟩ := wb_of32 x
  rw [pk_tn hn]
  exact pk_ushrN hn 16 16 (by decide)
theorem and16 (x : Int32) : x &&& (65535 : Int32) = nI (x.toBitVec.toNat % 65536) := pk_and x 16 (by decide)
theorem x_pseudo (fu : Nat) (x y : Int32) (n : Nat) (M : Mm) : fX11_pseudoSum fu x y (nI n) M = some (nI (pN x y n), M) := by
  unfold fX11_pseudoSum
  rw [ushr16, ushr16, and16, and16, nI_add, nI_add, nI_add, show nI (x.toBitVec.toNat / 65536 + x.toBitVec.toNat % 65536 + y.toBitVec.toNat / 65536 + y.toBitVec.toNat % 65536) + (6 : Int32) = nI (x.toBitVec.toNat / 65536 + x.toBitVec.toNat % 65536 + y.toBitVec.toNat / 65536 + y.toBitVec.toNat % 65536 + 6) from nI_add _ 6, nI_add]
  rfl
theorem m_pseudo (fu : Nat) (x y : Int32) {n : Nat} (hn : n < 2 ^ 31) (A : Mm) : fX16_pseudo fu 323 x y (nI n) A = some (lN (pN x y n), A) := by
  have h1 := tn_lt x
  have h2 := tn_lt y
  unfold fX16_pseudo
  rw [ushr16, ushr16, and16, and16, nI_add, nI_add, nI_add, nI_l (by omega), nI_l hn]
  have e1 : lN (x.toBitVec.toNat / 65536 + x.toBitVec.toNat % 65536 + y.toBitVec.toNat / 65536 + y.toBitVec.toNat % 65536) + (6 : Int64) = lN (x.toBitVec.toNat / 65536 + x.toBitVec.toNat % 65536 + y.toBitVec.toNat / 65536 + y.toBitVec.toNat % 65536 + 6) := lN_add _ 6
  rw [e1, lN_add]
  rfl
/-- the head of a segment as the reference makes it, its sum still 0 -/
def tA (g : Nat → Int32) (sp dp seq ack hl how told : Int32) : Nat → Int32 := up4 (up2 (up1 (up1 (up4 (up4 (up2 (up2 g 34 sp) 36 dp) 38 seq) 42 ack) 46 hl) 47 how) 48 told) 50 0
/-- as the class makes it -/
def tX (g : Nat → Int32) (sp dp seq ack how told : Int32) : Nat → Int32 := up4 (up2 (up2 (up4 (up4 (up2 (up2 g 34 sp) 36 dp) 38 seq) 42 ack) 46 ((20480 : Int32) ||| how)) 48 told) 50 0
theorem flagB {fl : Nat} (h : fl < 32) : byt (((20480 : Int32) ||| nI fl) >>> ((8 : Int32) &&& 31)) = byt 80 ∧ byt ((20480 : Int32) ||| nI fl) = byt (nI fl) := by
  have : ∀ f, f < 32 → (byt (((20480 : Int32) ||| nI f) >>> ((8 : Int32) &&& 31)) = byt 80 ∧ byt ((20480 : Int32) ||| nI f) = byt (nI f)) := by decide +kernel
  exact this fl h
theorem tAX {g h : Nat → Int32} {sp dp seq ack told : Int32} {fl : Nat} (hfl : fl < 32) {j : Nat} (hj : (j < 34 ∨ 54 ≤ j) → g j = h j) : tA g sp dp seq ack 80 (nI fl) told j = tX h sp dp seq ack (nI fl) told j := by
  unfold tA tX
  refine up4_c fun _ _ _ _ => up2_c fun _ _ => ?_
  obtain ⟨f1, f2⟩ := flagB hfl
  by_cases c1 : j = 46
  · subst c1
    show (if (46 : Nat) = 47 then _ else if (46 : Nat) = 46 then byt 80 else _) = (if (46 : Nat) = 46 then _ else _)
    rw [if_neg (by decide), if_pos rfl, if_pos rfl, f1]
  · by_cases c2 : j = 47
    · subst c2
      show (if (47 : Nat) = 47 then byt (nI fl) else _) = (if (47 : Nat) = 46 then _ else if (47 : Nat) = 46 + 1 then _ else _)
      rw [if_pos rfl, if_neg (by decide), if_pos rfl, f2]
    · rw [up1_o (by omega), up1_o (by omega), up2_o (by omega)]
      exact up4_c fun _ _ _ _ => up4_c fun _ _ _ _ => up2_c fun _ _ => up2_c fun _ _ => hj (by omega)
theorem isB_tA {g : Nat → Int32} (h : ∀ j, isB (g j)) (sp dp seq ack hl how told : Int32) : ∀ j, isB (tA g sp dp seq ack hl how told j) := isB_up4 (isB_up2 (isB_up1 (isB_up1 (isB_up4 (isB_up4 (isB_up2 (isB_up2 h _ _) _ _) _ _) _ _) _ _) _ _) _ _) _ _
/-- with its sum -/
def tS (g : Nat → Int32) (ip to : Int32) (len : Nat) : Nat → Int32 := up2 g 50 (nI (65535 - f16 (f16 (pN ip to len + sm g 34 len))))
theorem tS_c {g h : Nat → Int32} {ip to : Int32} {len : Nat} (hgh : ∀ j, 34 ≤ j → j < 34 + len → g j = h j) {j : Nat} (h1 : 34 ≤ j) (h2 : j < 34 + len) : tS g ip to len j = tS h ip to len j := by
  unfold tS
  rw [sm_congr (g := g) (g' := h) (f := 34) (f' := 34) len (fun i hi => hgh _ (by omega) (by omega))]
  exact up2_c fun _ _ => hgh j h1 h2
section Seg
variable {A M : Mm}
theorem x_tcpHead (hW : XW M) (fu : Nat) (sp dp seq ack how told : Int32) : fX9_fillHeader fu 317 sp dp seq ack how told M = some (wA M 308 (tX (mA M 308) sp dp seq ack how told)) := by
  unfold fX9_fillHeader
  have hl : sLen (mS M) 308 < 2 ^ 30 := by rw [xw_ln308 hW]; decide
  simp only [gR_ok (xw_ok317 hW), xw_g577_317 hW, gR_ok (xw_ok307 hW), xw_g256_307 hW, ob_some, ok_wA, (fun v M a (h : okA M 100 a) (hl : sLen (mS M) a < 2 ^ 30) (hi : 34 + 2 ≤ sLen (mS M) a) => show fX11_putTwo fu (some a) (34 : Int32) v M = some (wA M a (up2 (mA M a) 34 v)) from x_put2 fu h hl (i := 34) hi v), (fun v M a (h : okA M 100 a) (hl : sLen (mS M) a < 2 ^ 30) (hi : 36 + 2 ≤ sLen (mS M) a) => show fX11_putTwo fu (some a) (36 : Int32) v M = some (wA M a (up2 (mA M a) 36 v)) from x_put2 fu h hl (i := 36) hi v), (fun v M a (h : okA M 100 a) (hl : sLen (mS M) a < 2 ^ 30) (hi : 38 + 4 ≤ sLen (mS M) a) => show fX11_putFour fu (some a) (38 : Int32) v M = some (wA M a (up4 (mA M a) 38 v)) from x_put4 fu h hl (i := 38) hi v), (fun v M a (h : okA M 100 a) (hl : sLen (mS M) a < 2 ^ 30) (hi : 42 + 4 ≤ sLen (mS M) a) => show fX11_putFour fu (some a) (42 : Int32) v M = some (wA M a (up4 (mA M a) 42 v)) from x_put4 fu h hl (i := 42) hi v), (fun v M a (h : okA M 100 a) (hl : sLen (mS M) a < 2 ^ 30) (hi : 46 + 2 ≤ sLen (mS M) a) => show fX11_putTwo fu (some a) (46 : Int32) v M = some (wA M a (up2 (mA M a) 46 v)) from x_put2 fu h hl (i := 46) hi v), (fun v M a (h : okA M 100 a) (hl : sLen (mS M) a < 2 ^ 30) (hi : 48 + 2 ≤ sLen (mS M) a) => show fX11_putTwo fu (some a) (48 : Int32) v M = some (wA M a (up2 (mA M a) 48 v)) from x_put2 fu h hl (i := 48) hi v), (fun v M a (h : okA M 100 a) (hl : sLen (mS M) a < 2 ^ 30) (hi : 50 + 4 ≤ sLen (mS M) a) => show fX11_putFour fu (some a) (50 : Int32) v M = some (wA M a (up4 (mA M a) 50 v)) from x_put4 fu h hl (i := 50) hi v), xw_ok308 hW, sL_wA, xw_ln308 hW, Nat.reduceAdd, Nat.reduceLeDiff, Nat.reducePow, Nat.reduceLT, mA_wA_self, wA_wA]
  rfl
theorem x_sumUp (hW : XW M) {fu len : Nat} (hf : 2000 ≤ fu) (hlen : len ≤ 1480) (to : Int32) : fX9_sumUp fu 317 to (nI len) M = some (wA M 308 (tS (mA M 308) (mF M 257 307) to len)) := by
  have h1 := pN_le (mF M 257 307) to len
  have h2 := sm_le (mA M 308) 34 len
  have xa : fX11_added fu (some 308) (34 : Int32) (nI len) (nI (pN (mF M 257 307) to len)) M = some (nI (f16 (f16 (pN (mF M 257 307) to len + sm (mA M 308) 34 len))), M) := x_added (M := M) (a := 308) (f := 34) (e := len) (fu := fu) (xw_ok308 hW) (by rw [xw_ln308 hW]; decide) (by rw [xw_ln308 hW]; omega) (by omega) (by omega)
  have hb := f16_2 (s := pN (mF M 257 307) to len + sm (mA M 308) 34 len) (by omega)
  have e := up2_bits (g := mA M 308) (i := 50) (not_sixteen hb)
  have r2 : ∀ v, fX11_putTwo fu (some 308) (50 : Int32) v M = some (wA M 308 (up2 (mA M 308) 50 v)) := fun v => x_put2 fu (a := 308) (xw_ok308 hW) (by rw [xw_ln308 hW]; decide) (i := 50) (by rw [xw_ln308 hW]; decide) v
  unfold fX9_sumUp
  simp only [gR_ok (xw_ok317 hW), xw_g577_317 hW, gR_ok (xw_ok307 hW), xw_g256_307 hW, gI_ok (xw_ok307 hW), ob_some, x_pseudo, b2_some, xa, r2, e]
  rfl
/-- the reference's segment, ready for its packet -/
theorem m_segOut (hR : RW A) {fu n : Nat} (hf2 : 2000 ≤ fu) (hn : n ≤ 1460) (to sp dp seq ack told : Int32) (how : Int32) :
    fX16_segmentOut fu 323 to sp dp seq ack how told 0 (nI n) A = (fX16_ipOut fu 323 to 6 (nI (20 + n)) (wA A 331 (tS (tA (mA A 331) sp dp seq ack 80 how told) (mF A 1029 323) to (20 + n)))).bind (fun M => some M) := by
  have hf : 5 ≤ fu := by omega
  unfold fX16_segmentOut fX16_segmentOut_L91
  have e80 : ((((20 : Int32) + 0) / (4 : Int32)) <<< ((4 : Int32) &&& 31)) = 80 := by decide
  have h1 := pN_le (mF A 1029 323) to (20 + n)
  have h2 := sm_le (tA (mA A 331) sp dp seq ack 80 how told) 34 (20 + n)
  have ma : ∀ G, fX16_added fu (some 331) (34 : Int32) (nI (20 + n)) (lN (pN (mF A 1029 323) to (20 + n))) (wA A 331 G) = some (lN (pN (mF A 1029 323) to (20 + n) + sm G 34 (20 + n)), wA A 331 G) := fun G => by
    have hR1 : RW (wA A 331 G) := hR
    have := m_added (M := wA A 331 G) (a := 331) (f := 34) (e := 20 + n) (s0 := pN (mF A 1029 323) to (20 + n)) (fu := fu) (rw_ok331 hR1) (by rw [rw_ln331 hR1]; decide) (by rw [rw_ln331 hR1]; omega) (by omega)
    rw [mA_wA_self] at this
    exact this
  have msx : ∀ B, fX16_sixteen fu (lN (pN (mF A 1029 323) to (20 + n) + sm (tA (mA A 331) sp dp seq ack 80 how told) 34 (20 + n))) B = some (nI (65535 - f16 (f16 (pN (mF A 1029 323) to (20 + n) + sm (tA (mA A 331) sp dp seq ack 80 how told) 34 (20 + n)))), B) := fun B => m_sixteen (by omega) (by omega) B
  have e20 : (20 : Int32) + 0 + nI n = nI (20 + n) := by rw [show (20 : Int32) + 0 = nI 20 from rfl, nI_add]
  have ps : ∀ B, fX16_pseudo fu 323 (mF A 1029 323) to (nI (20 + n)) B = some (lN (pN (mF A 1029 323) to (20 + n)), B) := fun B => m_pseudo fu _ _ (by omega) B
  have mP1 : ∀ (i : Nat) (v : Int32) (B : Mm), RW B → i + 1 ≤ 1514 → fX16_put fu 323 (nI i) 1 v B = some (wA B 331 (up1 (mA B 331) i v)) := fun i v B h1 h2 => m_put1 h1 hf h2 v
  simp only [rc_ok, ok_wA, rw_ok323 hR, ob_some, rW_wA, hR, (fun v M (h : RW M) => show fX16_put fu 323 (34 : Int32) 2 v M = some (wA M 331 (up2 (mA M 331) 34 v)) from m_put2 h hf (i := 34) (by decide) v), (fun v M (h : RW M) => show fX16_put fu 323 (36 : Int32) 2 v M = some (wA M 331 (up2 (mA M 331) 36 v)) from m_put2 h hf (i := 36) (by decide) v), (fun v M (h : RW M) => show fX16_put fu 323 (38 : Int32) 4 v M = some (wA M 331 (up4 (mA M 331) 38 v)) from m_put4 h hf (i := 38) (by decide) v), (fun v M (h : RW M) => show fX16_put fu 323 (42 : Int32) 4 v M = some (wA M 331 (up4 (mA M 331) 42 v)) from m_put4 h hf (i := 42) (by decide) v), (fun v M (h : RW M) => show fX16_put fu 323 (46 : Int32) 1 v M = some (wA M 331 (up1 (mA M 331) 46 v)) from m_put1 h hf (i := 46) (by decide) v), (fun v M (h : RW M) => show fX16_put fu 323 (47 : Int32) 1 v M = some (wA M 331 (up1 (mA M 331) 47 v)) from m_put1 h hf (i := 47) (by decide) v), (fun v M (h : RW M) => show fX16_put fu 323 (48 : Int32) 2 v M = some (wA M 331 (up2 (mA M 331) 48 v)) from m_put2 h hf (i := 48) (by decide) v), (fun v M (h : RW M) => show fX16_put fu 323 (50 : Int32) 4 v M = some (wA M 331 (up4 (mA M 331) 50 v)) from m_put4 h hf (i := 50) (by decide) v), mA_wA_self, wA_wA, e80, if_pos (show (0 : Int32) ≤ 0 by decide), e20, gI_ok, mF_wA, ps, b2_some, gR_ok, mG_wA, rw_g1043_323 hR]
  rw [ma, b2_some]
  show b2 (fX16_sixteen fu (lN (pN (mF A 1029 323) to (20 + n) + sm (tA (mA A 331) sp dp seq ack 80 how told) 34 (20 + n))) _) _ = _
  rw [msx, b2_some]
  simp only [rc_ok, ok_wA, rw_ok323 hR, ob_some, rW_wA, hR, (fun v M (h : RW M) => show fX16_put fu 323 (50 : Int32) 2 v M = some (wA M 331 (up2 (mA M 331) 50 v)) from m_put2 h hf (i := 50) (by decide) v), mA_wA_self, wA_wA]
  rfl
end Seg
