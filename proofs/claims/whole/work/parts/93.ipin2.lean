/-! ===== part 93: an IP packet comes in, whole ===== -/
theorem h2_w (g : Nat → Int32) (i : Nat) : ∃ w, w < 65536 ∧ h2 g i = nI w := by
  obtain ⟨w, hw, e⟩ := nx_mask (h2 g i)
  refine ⟨w, hw, ?_⟩
  rw [← e]
  refine b_ext (fun j hj => ?_)
  rw [b_and, b_65535]
  by_cases c : j < 16
  · simp [c]
  · have : bt (h2 g i) j = false := by
      unfold h2
      rw [b_or, b_shl8 _ hj, b_and, b_and, b_255, b_255]
      have c1 : ¬ j - 8 < 8 := by omega
      have c2 : ¬ j < 8 := by omega
      simp [c1, c2]
    simp [c, this]
theorem isHost_same (fu : Nat) (x : Int32) : ∃ b : Int32, (b = 0 ∨ b = 1) ∧ (∀ A, fX16_isHost fu x A = some (b, A)) ∧ (∀ M, fX11_isHostNumber fu x M = some (b, M)) := by
  unfold fX16_isHost fX11_isHostNumber
  by_cases c1 : ushr x (24 : Int32) < (1 : Int32)
  · exact ⟨0, Or.inl rfl, fun A => by rw [if_pos c1, rN0], fun M => by rw [if_pos c1, rN0]⟩
  · by_cases c2 : (223 : Int32) < ushr x (24 : Int32)
    · exact ⟨0, Or.inl rfl, fun A => by rw [if_neg c1, if_pos c2, rN0], fun M => by rw [if_neg c1, if_pos c2, rN0]⟩
    · by_cases c3 : ushr x (24 : Int32) = (127 : Int32)
      · exact ⟨0, Or.inl rfl, fun A => by rw [if_neg c1, if_neg c2, if_pos c3, rN0], fun M => by rw [if_neg c1, if_neg c2, if_pos c3, rN0]⟩
      · exact ⟨1, Or.inr rfl, fun A => by rw [if_neg c1, if_neg c2, if_neg c3, rN1], fun M => by rw [if_neg c1, if_neg c2, if_neg c3, rN1]⟩
section IpIn2
variable {A M : Mm}
theorem m_ip_copy (h : RW A) (hB : By A) {fu hd n : Nat} (hf : 4100 ≤ fu) (hn : n ≤ 4096) (hh : 14 + hd + n ≤ 65540) (x p : Int32) : fX16_ipIn_L209 fu fu 323 (nI hd) x (nI n) p 0 A = (fX16_taken fu 323 p (nI n) (sF (wA A 338 (fun j => if j < n then mA A 324 (14 + hd + j) else mA A 338 j)) 1054 323 x)).bind (fun M3 => some M3) := by
  have hR : ∀ g, RW (wA A 338 g) := fun g => h
  have step : ∀ m j, j < n → fX16_ipIn_L209 fu (m + 1) 323 (nI hd) x (nI n) p (nI j) (wA A 338 (fun i => if i < j then mA A 324 (14 + hd + i) else mA A 338 i)) = fX16_ipIn_L209 fu m 323 (nI hd) x (nI n) p (nI (j + 1)) (wA A 338 (fun i => if i < j + 1 then mA A 324 (14 + hd + i) else mA A 338 i)) := by
    intro m j hj
    have e1 : ((14 : Int32) + nI hd) + nI j = nI (14 + hd + j) := by
      rw [show (14 : Int32) + nI hd = nI (14 + hd) from nI_add 14 hd, nI_add]
    rw [fX16_ipIn_L209, if_neg (nI_ge hj (by omega)), gR_ok (rw_ok323 (hR _)), ob_some, rw_g1053_323 (hR _), gR_ok (rw_ok323 (hR _)), ob_some, rw_g1024_323 (hR _), e1, gA_ok (rw_ok324 (hR _)) (by rw [rw_ln324 (hR _)]; omega) (by omega), ob_some, mA_wA_ne (show 324 ≠ 338 by decide), toB_byt _ (hB _ _ (rw_ok324 h).2.2), pA_ok (rw_ok338 (hR _)) (by rw [rw_ln338 (hR _)]; omega) (by omega), ob_some, nI_1, wA_wA, mA_wA_self]
    refine congrArg (fun z => fX16_ipIn_L209 fu m 323 (nI hd) x (nI n) p (nI (j + 1)) (wA A 338 z)) ?_
    funext i
    by_cases c : i = j
    · rw [if_pos c, if_pos (by omega), c]
    · rw [if_neg c]
      by_cases c2 : i < j
      · rw [if_pos c2, if_pos (by omega)]
      · rw [if_neg c2, if_neg (by omega)]
  have e0 : wA A 338 (fun i => if i < 0 then mA A 324 (14 + hd + i) else mA A 338 i) = A := by
    have : (fun i => if i < 0 then mA A 324 (14 + hd + i) else mA A 338 i) = mA A 338 := by
      funext i
      rw [if_neg (by omega)]
    rw [this]
    exact wA_mA A _
  have lpe := lp0 (fun m j => fX16_ipIn_L209 fu m 323 (nI hd) x (nI n) p (nI j) (wA A 338 (fun i => if i < j then mA A 324 (14 + hd + i) else mA A 338 i))) step (fu := fu) (by omega)
  simp only [e0] at lpe
  refine Eq.trans lpe ?_
  obtain ⟨m, hm⟩ : ∃ m, fu - n = m + 1 := ⟨fu - n - 1, by omega⟩
  rw [hm, fX16_ipIn_L209, if_pos (Int32.le_refl _), pF_ok (rw_ok323 (hR _)), ob_some, rc_ok (by rw [ok_sF]; exact rw_ok323 (hR _)), ob_some]
theorem sp_ipIn (fu : Nat) (hf : 4200 ≤ fu) {KN KS t T tr ln : Nat} (hJ : JL0 KN KS t T A M) (ht : t + 1 ≤ 1000) (hT2 : T < 2 ^ 30) (hD : JD A M) (hN : JN A M) (hBA : Bd RM TM A) (hBM : Bd RX TX M) (hT : TrR ln tr A M) (hl : ln ≤ 1514) (h14 : 14 ≤ ln) (h80 : 80 ≤ sLen (mS M) tr) (ty0 : sTy (mS M) (tr - 1) ≠ 0) (ty1 : sTy (mS M) (tr - 1) ≠ 1) (ty2 : sTy (mS M) (tr - 1) ≠ 2) (hRX : RX tr) :
    IpR fu KN KS (t + 1) T A M (fX16_ipIn fu 323 A) (fX3_readPacket fu 314 (some tr) (nI (ln - 14)) M) := by
  have hR := hJ.1
  have hW := hJ.2.1
  have hT0 := hT
  obtain ⟨t1, t2, t3, t4, t5, t6, t7, t8⟩ := hT0
  have K0 : Kept KN KS (t + 1) T A M A M := Kept_nt hJ ht hD hN hBA hBM (fun _ _ _ => rfl) (fun _ _ _ => rfl) rfl rfl rfl
  have drop0 : ∀ ra rx, ra = some A → rx = some ((0 : Int32), M) → IpR fu KN KS (t + 1) T A M ra rx := fun ra rx h1 h2 => Or.inl ⟨A, M, h1, h2, K0⟩
  have KS0 : ∀ x, Kept KN KS (t + 1) T A M A (sF M 193 314 x) := fun x => Kept_nt hJ ht hD hN hBA hBM (fun f a h => by rw [mF_sF, if_neg (by omega)]) (fun _ _ _ => rfl) rfl rfl rfl
  have dropS : ∀ ra rx x, ra = some A → rx = some ((0 : Int32), sF M 193 314 x) → IpR fu KN KS (t + 1) T A M ra rx := fun ra rx x h1 h2 => Or.inl ⟨A, _, h1, h2, KS0 x⟩
  unfold fX16_ipIn fX3_readPacket
  have ec : nI ln - (14 : Int32) = nI (ln - 14) := nI_sub (x := ln) (y := 14) h14
  rw [gI_ok (rw_ok323 hR), ob_some, t1, ec]
  have x14 : fX11_one fu (some tr) (14 : Int32) M = some (u8 (mA M tr 14), M) := x_one fu t2 t4 (i := 14) (by omega)
  have x16 : fX11_two fu (some tr) (16 : Int32) M = some (h2 (mA M tr) 16, M) := x_two fu t2 t4 (i := 16) (by omega)
  rw [x14, b2_some, x16, b2_some]
  by_cases c20 : ln - 14 < 20
  · have c : nI (ln - 14) < (20 : Int32) := nI_lt (b := 20) c20 (by decide)
    rw [if_pos c, if_pos c]
    exact drop0 _ _ rfl rN0
  have c : ¬ nI (ln - 14) < (20 : Int32) := nI_nlt (b := 20) (by omega) (by omega)
  have e14 : mA M tr 14 = mA A 324 14 := (t5 14 (by omega)).symm
  have e16 : h2 (mA M tr) 16 = h2 (mA A 324) 16 := h2_congr (t5 _ (by omega)).symm (t5 _ (by omega)).symm
  have g14 : gA A 100 (some 324) (14 : Int32) = some (mA A 324 14) := gA_ok (i := 14) (rw_ok324 hR) (by rw [rw_ln324 hR]; decide) (by decide)
  have m16 : fX16_trayHalf fu 323 (16 : Int32) A = some (h2 (mA A 324) 16, A) := m_trayHalf hR fu (i := 16) (by decide)
  obtain ⟨q, hq, eq⟩ := pk_andE (mA A 324 14) (m := 15) 4 (by decide)
  obtain ⟨w, hw, ew⟩ := h2_w (mA A 324) 16
  have e4q : (4 : Int32) * nI q = nI (4 * q) := pk_mul 4 q
  have eq4 : nI q * (4 : Int32) = nI (4 * q) := by rw [show nI q * (4 : Int32) = nI (q * 4) from pk_mul q 4, Nat.mul_comm]
  have eqI : mA A 324 14 &&& (15 : Int32) = nI q := eq
  simp only [if_neg c, x14, gR_ok (rw_ok323 hR), rw_g1024_323 hR, g14, rc_ok (rw_ok323 hR), m16, ob_some, b2_some, e14, e16, u8_15, eqI, ew, e4q, eq4]
  by_cases cv : ¬ ((mA A 324 14 &&& 240) = 64)
  · rw [if_neg cv, if_neg (fun q => cv ((ver4 _).mp q))]
    exact drop0 _ _ rfl rN0
  replace cv := Classical.not_not.mp cv
  rw [if_pos cv, if_pos ((ver4 _).mpr cv)]
  by_cases c5 : 4 * q < 20
  · rw [if_pos (show nI (4 * q) < (20 : Int32) from nI_lt (b := 20) c5 (by decide)), if_neg (show ¬ (20 : Int32) ≤ nI (4 * q) from nI_ge (b := 20) c5 (by decide))]
    exact drop0 _ _ rfl rN0
  rw [if_neg (show ¬ nI (4 * q) < (20 : Int32) from nI_nlt (b := 20) (by omega) (by omega)), if_pos (show (20 : Int32) ≤ nI (4 * q) from nI_le (a := 20) (by omega) (by omega))]
  by_cases c6 : w < 4 * q
  · have n6 : nI w < nI (4 * q) := nI_lt c6 (by omega)
    rw [if_pos n6, if_pos n6]
    exact drop0 _ _ rfl rN0
  have n6 : ¬ nI w < nI (4 * q) := nI_nlt (by omega) (by omega)
  rw [if_neg n6, if_neg n6]
  by_cases c7 : ln - 14 < w
  · have n7 : nI (ln - 14) < nI w := nI_lt c7 (by omega)
    rw [if_pos n7, if_pos n7]
    exact drop0 _ _ rfl rN0
  have n7 : ¬ nI (ln - 14) < nI w := nI_nlt (by omega) (by omega)
  rw [if_neg n7, if_neg n7]
  -- the sum of the head
  have hsm : sm (mA M tr) 14 (4 * q) = sm (mA A 324) 14 (4 * q) := sm_congr (4 * q) (fun j hj => (t5 _ (by omega)).symm)
  have hsl := sm_le (mA A 324) 14 (4 * q)
  have xa : fX11_added fu (some tr) (14 : Int32) (nI (4 * q)) (0 : Int32) M = some (nI (f16 (f16 (sm (mA A 324) 14 (4 * q)))), M) := by
    have := x_added (M := M) (a := tr) (f := 14) (e := 4 * q) (s0 := 0) (fu := fu) t2 t4 (by omega) (by omega) (by rw [hsm]; omega)
    rw [Nat.zero_add, hsm] at this
    exact this
  have ma : fX16_added fu (some 324) (14 : Int32) (nI (4 * q)) (0 : Int64) A = some (lN (sm (mA A 324) 14 (4 * q)), A) := by
    have := m_added (M := A) (a := 324) (f := 14) (e := 4 * q) (s0 := 0) (fu := fu) (rw_ok324 hR) (by rw [rw_ln324 hR]; decide) (by rw [rw_ln324 hR]; omega) (by omega)
    rw [Nat.zero_add] at this
    exact this
  have h16 := f16_2 (s := sm (mA A 324) 14 (4 * q)) (by omega)
  have msx : fX16_sixteen fu (lN (sm (mA A 324) 14 (4 * q))) A = some (nI (65535 - f16 (f16 (sm (mA A 324) 14 (4 * q)))), A) := m_sixteen (by omega) (by omega) A
  simp only [xa, ma, msx, b2_some]
  by_cases c8 : ¬ (f16 (f16 (sm (mA A 324) 14 (4 * q))) = 65535)
  · rw [if_neg (fun e => c8 (by
      have : nI (65535 - f16 (f16 (sm (mA A 324) 14 (4 * q)))) = nI 0 := e
      have := (nI_eq (by omega) (by omega)).mp this
      omega)), if_neg (show ¬ nI (f16 (f16 (sm (mA A 324) 14 (4 * q)))) = (65535 : Int32) from fun e => c8 ((nI_eq (b := 65535) (by omega) (by decide)).mp e))]
    exact drop0 _ _ rfl rN0
  replace c8 := Classical.not_not.mp c8
  rw [c8, if_pos (show nI (65535 - 65535) = 0 from rfl), if_pos (show nI 65535 = (65535 : Int32) from rfl)]
  have m26 : fX16_trayWord fu 323 (26 : Int32) A = some (w4 (mA A 324) 26, A) := m_trayWord hR fu (i := 26) (by decide)
  have m30 : fX16_trayWord fu 323 (30 : Int32) A = some (w4 (mA A 324) 30, A) := m_trayWord hR fu (i := 30) (by decide)
  have e26 : w4 (mA M tr) 26 = w4 (mA A 324) 26 := w4_congr (fun j h1 h2 => (t5 j (by omega)).symm)
  have e30 : w4 (mA M tr) 30 = w4 (mA A 324) 30 := w4_congr (fun j h1 h2 => (t5 j (by omega)).symm)
  have x26 : fX11_four fu (some tr) (26 : Int32) M = some (w4 (mA A 324) 26, M) := by rw [← e26]; exact x_four fu t2 t4 (i := 26) (by omega)
  have hW1 : ∀ x, XW (sF M 193 314 x) := fun x => hW
  have x30 : ∀ x, fX11_four fu (some tr) (30 : Int32) (sF M 193 314 x) = some (w4 (mA A 324) 30, sF M 193 314 x) := fun x => by rw [← e30]; exact x_four (M := sF M 193 314 x) fu t2 t4 (i := 30) (by show 30 + 4 ≤ sLen (mS M) tr; omega)
  obtain ⟨p1, -⟩ := hJ.2.2.2.2.1
  have eip : mF (sF M 193 314 (w4 (mA A 324) 26)) 257 307 = (mF A 1029 323) := by rw [mF_sF, if_neg (by omega)]; exact p1.symm
  have esd : mF (sF M 193 314 (w4 (mA A 324) 26)) 193 314 = w4 (mA A 324) 26 := by rw [mF_sF, if_pos ⟨rfl, rfl⟩]
  simp only [m26, m30, rc_ok (rw_ok323 hR), gI_ok (rw_ok323 hR), x26, pF_ok (xw_ok314 hW), x30, gR_ok (xw_ok314 (hW1 _)), xw_g206_314 (hW1 _), gI_ok (xw_ok307 (hW1 _)), gI_ok (xw_ok314 (hW1 _)), ob_some, b2_some, eip, esd]
  by_cases c9 : ¬ (w4 (mA A 324) 30 = (mF A 1029 323))
  · rw [if_neg c9, if_neg c9]
    exact dropS _ _ _ rfl rN0
  replace c9 := Classical.not_not.mp c9
  rw [if_pos c9, if_pos c9]
  by_cases c10 : w4 (mA A 324) 26 = (mF A 1029 323)
  · rw [if_pos c10, if_pos c10]
    exact dropS _ _ _ rfl rN0
  rw [if_neg c10, if_neg c10]
  obtain ⟨bh, hbh, ih1, ih2⟩ := isHost_same fu (w4 (mA A 324) 26)
  rw [ih1, b2_some, ih2, b2_some]
  rcases hbh with rfl | rfl
  · rw [if_pos rfl, if_pos rfl]
    exact dropS _ _ _ rfl rN0
  have one0 : ¬ (1 : Int32) = 0 := by decide
  have m20 : fX16_trayHalf fu 323 (20 : Int32) A = some (h2 (mA A 324) 20, A) := m_trayHalf hR fu (i := 20) (by decide)
  have g23 : gA A 100 (some 324) (23 : Int32) = some (mA A 324 23) := gA_ok (i := 23) (rw_ok324 hR) (by rw [rw_ln324 hR]; decide) (by decide)
  have e23 : mA M tr 23 = mA A 324 23 := (t5 23 (by omega)).symm
  have x23 : fX11_one fu (some tr) (23 : Int32) (sF M 193 314 (w4 (mA A 324) 26)) = some (u8 (mA A 324 23), sF M 193 314 (w4 (mA A 324) 26)) := by rw [← e23]; exact x_one (M := sF M 193 314 (w4 (mA A 324) 26)) fu t2 t4 (i := 23) (by show 23 < sLen (mS M) tr; omega)
  have esz : nI w - nI (4 * q) = nI (w - 4 * q) := nI_sub (by omega)
  have epl : (14 : Int32) + nI (4 * q) = nI (14 + 4 * q) := nI_add 14 (4 * q)
  rw [if_neg one0, if_neg one0]
  simp only [rc_ok (rw_ok323 hR), m20, ob_some, b2_some]
  rw [x23, b2_some, pF_ok (xw_ok314 (hW1 _)), ob_some, pG_ok (by rw [ok_sF]; exact xw_ok314 (hW1 _)), ob_some, pF_ok (by rw [ok_sG, ok_sF]; exact xw_ok314 (hW1 _)), ob_some, pF_ok (by rw [ok_sF, ok_sG, ok_sF]; exact xw_ok314 (hW1 _)), ob_some, esz, epl]
  show IpR fu KN KS (t + 1) T A M _ (b2 (fX11_two fu (some tr) (20 : Int32) (ntM M tr (w4 (mA A 324) 26) (u8 (mA A 324 23)) (nI (14 + 4 * q)) (nI (w - 4 * q)))) _)
  have bN1 : Bd RX TX (ntM M tr (w4 (mA A 324) 26) (u8 (mA A 324 23)) (nI (14 + 4 * q)) (nI (w - 4 * q))) := (pG_own (M := sF (sF M 193 314 (w4 (mA A 324) 26)) 204 314 (u8 (mA A 324 23))) (c := 3) (f := 192) (o := some 314) hBM (by unfold TX; omega) (inR_some hRX) (pG_ok (by rw [ok_sF]; exact xw_ok314 (hW1 _)))).2
  have KN1 : ∀ u, t + u ≤ 1000 → Kept KN KS (t + u) T A M A (ntM M tr (w4 (mA A 324) 26) (u8 (mA A 324 23)) (nI (14 + 4 * q)) (nI (w - 4 * q))) := fun u hu => Kept_nt hJ hu hD hN hBA bN1 (fun f a h => ntM_F h) (fun f a h => ntM_G h) rfl rfl rfl
  have nS : mF (ntM M tr (w4 (mA A 324) 26) (u8 (mA A 324 23)) (nI (14 + 4 * q)) (nI (w - 4 * q))) 193 314 = w4 (mA A 324) 26 := by unfold ntM; simp only [mF_sF, mF_sG, reduceIte, Nat.reduceEqDiff, Nat.reduceAdd, Nat.reduceMul, Nat.reduceLT, Nat.reduceLeDiff, and_true, true_and, and_false, false_and, and_self, ne_eq, not_true_eq_false, not_false_eq_true, Option.some.injEq, reduceCtorEq]
  have nP : mF (ntM M tr (w4 (mA A 324) 26) (u8 (mA A 324 23)) (nI (14 + 4 * q)) (nI (w - 4 * q))) 204 314 = u8 (mA A 324 23) := by unfold ntM; simp only [mF_sF, mF_sG, reduceIte, Nat.reduceEqDiff, Nat.reduceAdd, Nat.reduceMul, Nat.reduceLT, Nat.reduceLeDiff, and_true, true_and, and_false, false_and, and_self, ne_eq, not_true_eq_false, not_false_eq_true, Option.some.injEq, reduceCtorEq]
  have nL : mF (ntM M tr (w4 (mA A 324) 26) (u8 (mA A 324 23)) (nI (14 + 4 * q)) (nI (w - 4 * q))) 202 314 = nI (14 + 4 * q) := by unfold ntM; simp only [mF_sF, mF_sG, reduceIte, Nat.reduceEqDiff, Nat.reduceAdd, Nat.reduceMul, Nat.reduceLT, Nat.reduceLeDiff, and_true, true_and, and_false, false_and, and_self, ne_eq, not_true_eq_false, not_false_eq_true, Option.some.injEq, reduceCtorEq]
  have nZ : mF (ntM M tr (w4 (mA A 324) 26) (u8 (mA A 324 23)) (nI (14 + 4 * q)) (nI (w - 4 * q))) 203 314 = nI (w - 4 * q) := by unfold ntM; simp only [mF_sF, mF_sG, reduceIte, Nat.reduceEqDiff, Nat.reduceAdd, Nat.reduceMul, Nat.reduceLT, Nat.reduceLeDiff, and_true, true_and, and_false, false_and, and_self, ne_eq, not_true_eq_false, not_false_eq_true, Option.some.injEq, reduceCtorEq]
  have nB : mG (ntM M tr (w4 (mA A 324) 26) (u8 (mA A 324 23)) (nI (14 + 4 * q)) (nI (w - 4 * q))) 192 314 = some tr := by
    show mG (sG (sF (sF M 193 314 (w4 (mA A 324) 26)) 204 314 (u8 (mA A 324 23))) 192 314 (some tr)) 192 314 = _
    rw [mG_sG, if_pos ⟨rfl, rfl⟩]
  have nA : mA (ntM M tr (w4 (mA A 324) 26) (u8 (mA A 324 23)) (nI (14 + 4 * q)) (nI (w - 4 * q))) = mA M := rfl
  have nSS : mS (ntM M tr (w4 (mA A 324) 26) (u8 (mA A 324 23)) (nI (14 + 4 * q)) (nI (w - 4 * q))) = mS M := rfl
  have nok : ∀ t a, okA M t a → okA (ntM M tr (w4 (mA A 324) 26) (u8 (mA A 324 23)) (nI (14 + 4 * q)) (nI (w - 4 * q))) t a := fun t a h => h
  generalize ntM M tr (w4 (mA A 324) 26) (u8 (mA A 324 23)) (nI (14 + 4 * q)) (nI (w - 4 * q)) = N at bN1 KN1 nS nP nL nZ nB nA nSS nok ⊢
  have hWN := (KN1 0 (by omega)).1.2.1
  have e20 : h2 (mA M tr) 20 = h2 (mA A 324) 20 := h2_congr (t5 _ (by omega)).symm (t5 _ (by omega)).symm
  have e18 : h2 (mA M tr) 18 = h2 (mA A 324) 18 := h2_congr (t5 _ (by omega)).symm (t5 _ (by omega)).symm
  have x20 : fX11_two fu (some tr) (20 : Int32) N = some (h2 (mA A 324) 20, N) := by
    rw [← e20, ← nA]
    exact x_two (M := N) fu (nok _ _ t2) (by rw [nSS]; exact t4) (i := 20) (by rw [nSS]; omega)
  have x18 : fX11_two fu (some tr) (18 : Int32) N = some (h2 (mA A 324) 18, N) := by
    rw [← e18, ← nA]
    exact x_two (M := N) fu (nok _ _ t2) (by rw [nSS]; exact t4) (i := 18) (by rw [nSS]; omega)
  rw [x20, b2_some]
  obtain ⟨v, hv, ev⟩ := pk_andE (h2 (mA A 324) 20) (m := 8191) 13 (by decide)
  have ev' : h2 (mA A 324) 20 &&& (8191 : Int32) = nI v := ev
  have e8v : (8 : Int32) * nI v = nI (8 * v) := pk_mul 8 v
  have ev8 : nI v * (8 : Int32) = nI (8 * v) := by rw [show nI v * (8 : Int32) = nI (v * 8) from pk_mul v 8, Nat.mul_comm]
  rw [ev', e8v]
  -- a fragment, in both
  have frag : ∀ mo : Int32, (mo = 0 ∨ mo = 1) → (mo = 1 → 1 ≤ w - 4 * q) → 8 * v + (w - 4 * q) ≤ 4096 → ∀ rx, rx = b2 (fX3_gather_L47 fu 314 (h2 (mA A 324) 18) mo (nI (8 * v)) N) (fun v34 M33 => if v34 = 0 then rN .boolean (0 : Int32) M33 else rN .boolean (1 : Int32) M33) → IpR fu KN KS (t + 1) T A M ((fX16_fragment fu 323 (w4 (mA A 324) 26) (u8 (mA A 324 23)) (nI (8 * v)) (nI (14 + 4 * q)) (nI (w - 4 * q)) mo A).bind (fun M2 => some M2)) rx := by
    intro mo hmo hm1 hle rx hrx
    have KK := KN1 0 (by omega)
    obtain ⟨j1, ⟨n, nw, s, τ, j2⟩, j3, -, -, j6, j7⟩ := KK
    obtain ⟨hTN, tyN⟩ := TrR_fr2 hW ty2 j6 j7 hT
    obtain ⟨d, hF⟩ := sp_gather fu hf (o := 8 * v) (at' := 14 + 4 * q) (sz := w - 4 * q) j1 (by omega) hT2 j2 j3 hBA bN1 hTN tyN nB nL nZ (by omega) hle hmo hm1
    rw [nS, nP] at hF
    rcases hF with ⟨A', M', r1, r2, k1, k2, k3, k4, k5, k6, k7⟩ | ⟨A', M', e, r0, r1, r2, ⟨k1, k2, k3, k4, k5, k6, k7⟩, b1, b2', b3, b4, b5, b6, b7, b8, b9, b10⟩
    · left
      refine ⟨A', M', by rw [r1, ob_some], ?_, k1, k2, k3, k4, k5, j6.tr k6, j7.tr k7⟩
      rw [hrx, r2, b2_some, if_pos rfl, rN0]
    · right
      refine ⟨A', M', e, d + 1, 0, ?_, ?_, ⟨mA A 324 23, by rw [b10, nP]⟩, ⟨k1, k2, k3, k4, k5, j6.tr k6, j7.tr k7⟩, b1, b2', b3, b4, by omega, by rw [b5]; decide, fun j hj => by rw [Nat.zero_add]; exact b6 j hj, ?_, ?_, ?_, ?_, ?_, r0⟩
      · rw [r1, b10, nP]
        cases fX16_taken fu 323 (u8 (mA A 324 23)) (nI e) A' <;> rfl
      · rw [hrx, r2, b2_some, if_neg one0, rN1]
      · rw [b7, b9, nS]
      · intro e2
        obtain rfl : d = 307 := by omega
        exact absurd (b8.symm.trans (xw_ok307 k1.2.1).2.2) (by decide)
      · rw [Nat.add_sub_cancel, b8]; decide
      · rw [Nat.add_sub_cancel, b8]; decide
      · rw [Nat.add_sub_cancel, b8]; decide
  unfold fX16_ipIn_L157
  have eu8 : mA A 324 23 &&& (255 : Int32) = u8 (mA A 324 23) := rfl
  simp only [gR_ok (rw_ok323 hR), rw_g1024_323 hR, g23, ob_some, esz, eu8, one0, if_true, if_false]
  by_cases cp : (h2 (mA A 324) 20 &&& 16383) = 0
  · -- a whole packet
    obtain ⟨q1, q2⟩ := (piece_0 _).mp cp
    rw [ev'] at q2
    have hv0 : v = 0 := (nI_eq (b := 0) (by omega) (by decide)).mp q2
    subst hv0
    rw [if_pos q1, if_pos cp, if_pos (show nI (8 * 0) = 0 from rfl), if_pos (show nI (w - 4 * q) ≤ (4096 : Int32) from nI_le (b := 4096) (by omega) (by decide)), m_ip_copy hR hBA.2.2.2.2 (by omega) (by omega) (by omega), rN1]
    right
    obtain ⟨j1, j2, j3, j4, j5, j6, j7⟩ := KN1 1 ht
    have aF : ∀ f a, f ≠ 1054 → mF (sF (wA A 338 (fun j => if j < w - 4 * q then mA A 324 (14 + 4 * q + j) else mA A 338 j)) 1054 323 (w4 (mA A 324) 26)) f a = mF A f a := fun f a h => by rw [mF_sF, if_neg (fun e => h e.1)]; rfl
    have aA : ∀ a, a ≠ 338 → mA (sF (wA A 338 (fun j => if j < w - 4 * q then mA A 324 (14 + 4 * q + j) else mA A 338 j)) 1054 323 (w4 (mA A 324) 26)) a = mA A a := fun a h => mA_wA_ne h
    have a338 : mA (sF (wA A 338 (fun j => if j < w - 4 * q then mA A 324 (14 + 4 * q + j) else mA A 338 j)) 1054 323 (w4 (mA A 324) 26)) 338 = (fun j => if j < w - 4 * q then mA A 324 (14 + 4 * q + j) else mA A 338 j) := mA_wA_self _ _ _
    refine ⟨sF (wA A 338 (fun j => if j < w - 4 * q then mA A 324 (14 + 4 * q + j) else mA A 338 j)) 1054 323 (w4 (mA A 324) 26), N, w - 4 * q, tr, 14 + 4 * q, by rw [nP], rfl, ⟨mA A 324 23, nP⟩, ⟨?_, ?_, ?_, ?_, j5, ⟨rfl, rfl, rfl, fun f a h => aF f a (fun e => h (by unfold PD; omega)), fun a h => aA a (fun e => h (by unfold QD; omega)), by rw [aA 330 (by decide)]⟩, j7⟩, nB, nL, nZ, nok _ _ t2, by rw [nSS]; omega, by rw [nSS]; exact t4, fun j hj => ?_, ?_, t6, by rw [nSS]; exact t7, by rw [nSS]; exact ty1, by rw [nSS]; exact ty0, by omega⟩
    · have j1' := j1
      obtain ⟨z1, z2, z3, z4, -⟩ := j1'
      have := JL0_keep (u := 0) (A' := sF (wA A 338 (fun j => if j < w - 4 * q then mA A 324 (14 + 4 * q + j) else mA A 338 j)) 1054 323 (w4 (mA A 324) 26)) j1 (by omega) hR z2 z3 z4 (fun f a h => aF f a (by unfold JLf at h; omega)) (fun O e => ⟨O, (aF _ _ (by decide)).trans e, Nat.le_refl _, by omega⟩) (fun a h => aA a (by omega)) (fun _ _ _ => rfl) (fun _ _ _ => rfl) (fun _ _ => ⟨fun _ _ _ => rfl, rfl⟩) (fun _ _ _ => rfl) rfl rfl
      exact this
    · obtain ⟨n, nw, s, τ, j2⟩ := j2
      exact ⟨n, nw, s, τ, JDa_congr (A := A) (M := N) (fun f a h1 h2 => aF f a (by omega)) (aF _ _ (by decide)) (by rw [aF 1049 323 (by decide)]; exact Int32.le_refl _) (fun a h1 h2 => aA a (by omega)) rfl rfl (fun _ _ _ _ => ⟨fun _ _ _ => rfl, rfl, rfl⟩) j2⟩
    · intro j hj
      rw [aA 330 (by decide)]
      exact j3 j hj
    · refine Bd_wA hBA (fun _ j => ?_)
      split
      · exact hBA.2.2.2.2 _ _ (rw_ok324 hR).2.2
      · exact hBA.2.2.2.2 _ _ (rw_ok338 hR).2.2
    · rw [a338, nA]
      show (if j < w - 4 * q then mA A 324 (14 + 4 * q + j) else mA A 338 j) = _
      rw [if_pos hj]
      exact t5 _ (by omega)
    · rw [nS, mF_sF, if_pos ⟨rfl, rfl⟩]
  · -- a fragment
    rw [if_neg cp, x18, b2_some, rc_ok (xw_ok314 hWN), ob_some]
    have ga : fX3_gather fu 314 (h2 (mA A 324) 18) (h2 (mA A 324) 20 &&& 16383) N = if (h2 (mA A 324) 20 &&& 8192) = 0 then fX3_gather_L47 fu 314 (h2 (mA A 324) 18) 0 (nI (8 * v)) N else (if w - 4 * q < 8 then some (0, N) else if (w - 4 * q) % 8 = 0 then fX3_gather_L47 fu 314 (h2 (mA A 324) 18) 1 (nI (8 * v)) N else some (0, N)) := by
      unfold fX3_gather fX3_gather_L13
      rw [piece_o, ev', ev8]
      by_cases cm : (h2 (mA A 324) 20 &&& 8192) = 0
      · rw [if_pos ((piece_m _).mpr cm), if_pos rfl, if_pos cm]
      · rw [if_neg (fun e => cm ((piece_m _).mp e)), if_neg one0, if_neg cm, gI_ok (xw_ok314 hWN), ob_some, nZ, ob_some]
        by_cases c8' : w - 4 * q < 8
        · rw [if_pos (show nI (w - 4 * q) < (8 : Int32) from nI_lt (b := 8) c8' (by decide)), if_pos c8', rN0]
        · rw [if_neg (show ¬ nI (w - 4 * q) < (8 : Int32) from nI_nlt (b := 8) (by omega) (by omega)), if_neg c8', show irm (nI (w - 4 * q)) (8 : Int32) = nI ((w - 4 * q) % 8) from irm_nI (d := 8) (by omega) (by decide) (by decide)]
          by_cases c9' : (w - 4 * q) % 8 = 0
          · rw [if_pos c9', c9', if_pos (show nI 0 = 0 from rfl)]
          · rw [if_neg c9', if_neg (nI_ne0 (by omega) (by omega)), rN0]
    rw [ga]
    have big : ∀ mo, ¬ 8 * v + (w - 4 * q) ≤ 4096 → fX16_ipIn_L274 fu 323 (nI (4 * q)) (w4 (mA A 324) 26) (nI (8 * v)) mo (nI (w - 4 * q)) (u8 (mA A 324 23)) A = some A ∧ fX3_gather_L47 fu 314 (h2 (mA A 324) 18) mo (nI (8 * v)) N = some (0, N) := by
      intro mo hgt
      have hgt' : ¬ nI (8 * v) + nI (w - 4 * q) ≤ (4096 : Int32) := by rw [nI_add]; exact nI_ge (a := 4096) (by omega) (by omega)
      refine ⟨?_, ?_⟩
      · unfold fX16_ipIn_L274
        rw [if_neg hgt']
      · rw [gather_gT fu _ _ _ hWN, nZ, if_neg hgt', rN0]
    have ok274 : ∀ mo, 8 * v + (w - 4 * q) ≤ 4096 → fX16_ipIn_L274 fu 323 (nI (4 * q)) (w4 (mA A 324) 26) (nI (8 * v)) mo (nI (w - 4 * q)) (u8 (mA A 324 23)) A = (fX16_fragment fu 323 (w4 (mA A 324) 26) (u8 (mA A 324 23)) (nI (8 * v)) (nI (14 + 4 * q)) (nI (w - 4 * q)) mo A).bind (fun M2 => some M2) := by
      intro mo hle
      unfold fX16_ipIn_L274
      rw [if_pos (show nI (8 * v) + nI (w - 4 * q) ≤ (4096 : Int32) from by rw [nI_add]; exact nI_le (b := 4096) hle (by decide)), rc_ok (rw_ok323 hR), ob_some, epl]
    have dropN : ∀ ra rx, ra = some A → rx = some ((0 : Int32), N) → IpR fu KN KS (t + 1) T A M ra rx := fun ra rx h1 h2 => Or.inl ⟨A, N, h1, h2, KN1 1 ht⟩
    unfold fX16_ipIn_L256
    by_cases cm : (h2 (mA A 324) 20 &&& 8192) = 0
    · have hv0 : ¬ nI (8 * v) = 0 := fun e => by
        have h8 := (nI_eq (a := 8 * v) (b := 0) (by omega) (by decide)).mp e
        obtain rfl : v = 0 := by omega
        exact cp ((piece_0 _).mpr ⟨cm, ev'.trans rfl⟩)
      rw [if_pos cm, if_pos cm, if_neg hv0, if_pos rfl]
      by_cases hle : 8 * v + (w - 4 * q) ≤ 4096
      · rw [ok274 0 hle]
        exact frag 0 (Or.inl rfl) (fun e => absurd e (by decide)) hle _ rfl
      · obtain ⟨z1, z2⟩ := big 0 hle
        exact dropN _ _ z1 (by rw [z2, b2_some, if_pos rfl, rN0])
    · rw [if_neg cm, if_neg cm, if_neg one0]
      by_cases c8' : w - 4 * q < 8
      · rw [if_pos c8']
        refine dropN _ _ ?_ (by rw [b2_some, if_pos rfl, rN0])
        by_cases c0 : w - 4 * q = 0
        · rw [c0, if_pos (show nI 0 = 0 from rfl)]
        · rw [if_neg (nI_ne0 (by omega) (by omega)), show irm (nI (w - 4 * q)) (8 : Int32) = nI ((w - 4 * q) % 8) from irm_nI (d := 8) (by omega) (by decide) (by decide), if_neg (nI_ne0 (by omega) (by omega))]
      · rw [if_neg c8', if_neg (nI_ne0 (by omega) (by omega)), show irm (nI (w - 4 * q)) (8 : Int32) = nI ((w - 4 * q) % 8) from irm_nI (d := 8) (by omega) (by decide) (by decide)]
        by_cases c9' : (w - 4 * q) % 8 = 0
        · rw [if_pos c9', c9', if_pos (show nI 0 = 0 from rfl)]
          by_cases hle : 8 * v + (w - 4 * q) ≤ 4096
          · rw [ok274 1 hle]
            exact frag 1 (Or.inr rfl) (fun _ => by omega) hle _ rfl
          · obtain ⟨z1, z2⟩ := big 1 hle
            exact dropN _ _ z1 (by rw [z2, b2_some, if_pos rfl, rN0])
        · rw [if_neg c9', if_neg (nI_ne0 (by omega) (by omega))]
          exact dropN _ _ rfl (by rw [b2_some, if_pos rfl, rN0])
end IpIn2
