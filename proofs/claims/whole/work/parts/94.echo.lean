/-! ===== part 94: echoes ===== -/
theorem sC_wA2 (M : Mm) (a sp b dp n : Nat) : sC M a sp b dp n = wA M b (fun j => if dp ≤ j ∧ j < dp + n then mA M a (sp + (j - dp)) else mA M b j) := by
  unfold sC wA
  have : (fun c j => if c = b ∧ dp ≤ j ∧ j < dp + n then M.2.2.1 a (sp + (j - dp)) else M.2.2.1 c j) = (fun c j => if c = b then (if dp ≤ j ∧ j < dp + n then mA M a (sp + (j - dp)) else mA M b j) else M.2.2.1 c j) := by
    funext c j
    by_cases h1 : c = b
    · subst h1
      by_cases h2 : dp ≤ j ∧ j < dp + n
      · rw [if_pos ⟨rfl, h2⟩, if_pos rfl, if_pos h2]; rfl
      · rw [if_neg (fun q => h2 q.2), if_pos rfl, if_neg h2]; rfl
    · rw [if_neg (fun q => h1 q.1), if_neg h1]
  exact congrArg (fun z => (M.1, M.2.1, z, M.2.2.2)) this
theorem u8_bt (v : Int32) (i : Nat) : bt (u8 v) i = (bt v i && decide (i < 8)) := by
  unfold u8
  rw [b_and, b_255]
theorem h2_bt (g : Nat → Int32) (i : Nat) {j : Nat} (hj : j < 32) : bt (h2 g i) j = ((decide (8 ≤ j) && (bt (g i) (j - 8) && decide (j - 8 < 8))) || (bt (g (i + 1)) j && decide (j < 8))) := by
  unfold h2
  rw [b_or, b_shl8 _ hj, b_and, b_and, b_255, b_255]
theorem h2_2048 {g : Nat → Int32} {i : Nat} : h2 g i = 2048 ↔ (u8 (g i) = 8 ∧ u8 (g (i + 1)) = 0) := by
  have b2048 : ∀ j, j < 32 → bt 2048 j = decide (j = 11) := by decide +kernel
  have b8 : ∀ j, j < 32 → bt 8 j = decide (j = 3) := by decide +kernel
  constructor
  · intro h
    have hb : ∀ j, j < 32 → bt (h2 g i) j = decide (j = 11) := fun j hj => by rw [h]; exact b2048 j hj
    refine ⟨b_ext (fun j hj => ?_), b_ext (fun j hj => ?_)⟩
    · rw [u8_bt, b8 j hj]
      by_cases c : j < 8
      · have := hb (j + 8) (by omega)
        rw [h2_bt g i (by omega)] at this
        have c1 : 8 ≤ j + 8 := by omega
        have c2 : ¬ j + 8 < 8 := by omega
        have c3 : (j + 8 = 11) = (j = 3) := propext (by omega)
        simp only [c1, c2, c3, c, Nat.add_sub_cancel, decide_true, decide_false, Bool.true_and, Bool.and_true, Bool.and_false, Bool.or_false] at this
        rw [this]
        simp [c]
      · have : ¬ j = 3 := by omega
        simp [c, this]
    · rw [u8_bt, b_0]
      by_cases c : j < 8
      · have := hb j hj
        rw [h2_bt g i hj] at this
        have c1 : ¬ 8 ≤ j := by omega
        have c2 : ¬ j = 11 := by omega
        simp only [c1, c2, c, decide_true, decide_false, Bool.false_and, Bool.and_true, Bool.false_or] at this
        rw [this]; rfl
      · simp [c]
  · rintro ⟨h1, h2'⟩
    refine b_ext (fun j hj => ?_)
    rw [h2_bt g i hj, b2048 j hj]
    have e1 : ∀ k, k < 8 → bt (g i) k = decide (k = 3) := fun k hk => by
      have := congrArg (fun z => bt z k) h1
      simp only [u8_bt, b8 k (by omega), hk, decide_true, Bool.and_true] at this
      exact this
    have e2 : ∀ k, k < 8 → bt (g (i + 1)) k = false := fun k hk => by
      have := congrArg (fun z => bt z k) h2'
      simp only [u8_bt, b_0, hk, decide_true, Bool.and_true] at this
      exact this
    by_cases c : j < 8
    · have c1 : ¬ 8 ≤ j := by omega
      have c2 : ¬ j = 11 := by omega
      simp [c1, c2, e2 j c]
    · by_cases c3 : j < 16
      · have c1 : 8 ≤ j := by omega
        have c2 : j - 8 < 8 := by omega
        have c4 : (j - 8 = 3) = (j = 11) := propext (by omega)
        rw [e1 (j - 8) c2]
        simp only [c1, c2, c, c4, decide_true, decide_false, Bool.true_and, Bool.and_true, Bool.and_false, Bool.or_false]
      · have c2 : ¬ j - 8 < 8 := by omega
        have c4 : ¬ j = 11 := by omega
        simp [c, c2, c4]
theorem isB_8 {v : Int32} (h : isB v) : v = 8 ↔ u8 v = 8 := sc_eq (b := v) h (n := 8) (by decide)
theorem isB_00 {v : Int32} (h : isB v) : v = 0 ↔ u8 v = 0 := sc_eq (b := v) h (n := 0) (by decide)
theorem byt0 : byt 0 = 0 := rfl
section Echo
variable {A M : Mm}
theorem m_echo_copy (h : RW A) (hB : By A) {fu n : Nat} (hf : 2000 ≤ fu) (hn : n ≤ 1480) : ∃ m, fX16_echo_L52 fu fu 323 (nI n) 0 A = fX16_echo_L52 fu (m + 1) 323 (nI n) (nI n) (wA A 331 (fun j => if 34 ≤ j ∧ j < 34 + n then mA A 338 (j - 34) else mA A 331 j)) := by
  have hR : ∀ g, RW (wA A 331 g) := fun g => h
  have step : ∀ m j, j < n → fX16_echo_L52 fu (m + 1) 323 (nI n) (nI j) (wA A 331 (fun i => if 34 ≤ i ∧ i < 34 + j then mA A 338 (i - 34) else mA A 331 i)) = fX16_echo_L52 fu m 323 (nI n) (nI (j + 1)) (wA A 331 (fun i => if 34 ≤ i ∧ i < 34 + (j + 1) then mA A 338 (i - 34) else mA A 331 i)) := by
    intro m j hj
    have e1 : (34 : Int32) + nI j = nI (34 + j) := nI_add 34 j
    rw [fX16_echo_L52, if_neg (nI_ge hj (by omega)), gR_ok (rw_ok323 (hR _)), ob_some, rw_g1043_323 (hR _), gR_ok (rw_ok323 (hR _)), ob_some, rw_g1053_323 (hR _), gA_ok (rw_ok338 (hR _)) (by rw [rw_ln338 (hR _)]; omega) (by omega), ob_some, mA_wA_ne (show 338 ≠ 331 by decide), toB_byt _ (hB _ _ (rw_ok338 h).2.2), e1, pA_ok (rw_ok331 (hR _)) (by rw [rw_ln331 (hR _)]; omega) (by omega), ob_some, nI_1, wA_wA, mA_wA_self]
    refine congrArg (fun z => fX16_echo_L52 fu m 323 (nI n) (nI (j + 1)) (wA A 331 z)) ?_
    funext i
    by_cases c : i = 34 + j
    · rw [if_pos c, if_pos (by omega), c, show 34 + j - 34 = j by omega]
    · rw [if_neg c]
      by_cases c2 : 34 ≤ i ∧ i < 34 + j
      · rw [if_pos c2, if_pos (by omega)]
      · rw [if_neg c2, if_neg (by omega)]
  have e0 : wA A 331 (fun i => if 34 ≤ i ∧ i < 34 + 0 then mA A 338 (i - 34) else mA A 331 i) = A := by
    have : (fun i => if 34 ≤ i ∧ i < 34 + 0 then mA A 338 (i - 34) else mA A 331 i) = mA A 331 := by
      funext i
      rw [if_neg (by omega)]
    rw [this]
    exact wA_mA A _
  have lpe := lp0 (fun m j => fX16_echo_L52 fu m 323 (nI n) (nI j) (wA A 331 (fun i => if 34 ≤ i ∧ i < 34 + j then mA A 338 (i - 34) else mA A 331 i))) step (fu := fu) (by omega)
  simp only [e0] at lpe
  refine ⟨fu - n - 1, Eq.trans lpe ?_⟩
  rw [show fu - n - 1 + 1 = fu - n by omega]
theorem sp_echo (fu : Nat) (hf0 : 4200 ≤ fu) {KN KS t T n bd pl : Nat} (hJ : JL0 KN KS t T A M) (hT2 : T < 2 ^ 30) (hBA : By A) (hBo : BodyR n bd pl A M) :
    ∃ A' M' T', fX16_echo fu 323 (nI n) A = some A' ∧ fX3_echo fu 314 M = some M' ∧ T ≤ T' ∧ T' ≤ T + 1 ∧ JL0 KN KS t T' A' M' ∧ FrA A A' ∧ FrM M M' := by
  have hR := hJ.1
  have hW := hJ.2.1
  have hf : 5 ≤ fu := by omega
  obtain ⟨b1, b2', b3, b4, b5, b6, b7, b8, b9, b10, b11, b12, b13⟩ := hBo
  have same : ∃ A' M' T', some A = some A' ∧ some M = some M' ∧ T ≤ T' ∧ T' ≤ T + 1 ∧ JL0 KN KS t T' A' M' ∧ FrA A A' ∧ FrM M M' := ⟨A, M, T, rfl, rfl, Nat.le_refl _, by omega, hJ, FrA.rf, FrM.rf⟩
  unfold fX16_echo fX3_echo
  simp only [gI_ok (xw_ok314 hW), gR_ok (xw_ok314 hW), ob_some, b1, b2', b3]
  by_cases c1 : n < 8
  · have q : nI n < (8 : Int32) := nI_lt (b := 8) c1 (by decide)
    rw [if_pos q, if_pos q]
    exact same
  have q1 : ¬ nI n < (8 : Int32) := nI_nlt (b := 8) (by omega) (by omega)
  rw [if_neg q1, if_neg q1]
  by_cases c2 : 1480 < n
  · have q : (1480 : Int32) < nI n := nI_lt (a := 1480) c2 (by omega)
    rw [if_pos q, if_pos q]
    exact same
  have q2 : ¬ (1480 : Int32) < nI n := nI_nlt (a := 1480) (by omega) (by decide)
  have hle : nI pl + nI n ≤ nI (sLen (mS M) bd) := by rw [nI_add]; exact nI_le b5 (by omega)
  have x2 : fX11_two fu (some bd) (nI pl) M = some (h2 (mA M bd) pl, M) := x_two fu b4 b6 (by omega)
  rw [if_neg q2, if_neg q2, if_neg (nI_pos (by omega)), aL_ok b4 rfl, ob_some, if_pos hle, x2, b2_some]
  have g0 : gA A 100 (some 338) (0 : Int32) = some (mA A 338 0) := gA_ok (i := 0) (rw_ok338 hR) (by rw [rw_ln338 hR]; decide) (by decide)
  have g1 : gA A 100 (some 338) (1 : Int32) = some (mA A 338 1) := gA_ok (i := 1) (rw_ok338 hR) (by rw [rw_ln338 hR]; decide) (by decide)
  have hsm : sm (mA M bd) pl n = sm (mA A 338) 0 n := sm_congr n (fun j hj => by rw [Nat.zero_add, b7 j hj])
  have hsl := sm_le (mA A 338) 0 n
  have xa : fX11_added fu (some bd) (nI pl) (nI n) (0 : Int32) M = some (nI (f16 (f16 (sm (mA A 338) 0 n))), M) := by
    have := x_added (M := M) (a := bd) (f := pl) (e := n) (s0 := 0) (fu := fu) b4 b6 b5 (by omega) (by rw [hsm]; omega)
    rw [Nat.zero_add, hsm] at this
    exact this
  have ma : fX16_added fu (some 338) (0 : Int32) (nI n) (0 : Int64) A = some (lN (sm (mA A 338) 0 n), A) := by
    have := m_added (M := A) (a := 338) (f := 0) (e := n) (s0 := 0) (fu := fu) (rw_ok338 hR) (by rw [rw_ln338 hR]; decide) (by rw [rw_ln338 hR]; omega) (by omega)
    rw [Nat.zero_add] at this
    exact this
  have msx : fX16_sixteen fu (lN (sm (mA A 338) 0 n)) A = some (nI (65535 - f16 (f16 (sm (mA A 338) 0 n))), A) := m_sixteen (by omega) (by omega) A
  have h16 := f16_2 (s := sm (mA A 338) 0 n) (by omega)
  simp only [gR_ok (rw_ok323 hR), rw_g1053_323 hR, ma, msx, g0, g1, ob_some, b2_some, gI_ok (xw_ok314 hW), gR_ok (xw_ok314 hW), b1, b2', b3, xa]
  have hB0 := hBA 338 0 (rw_ok338 hR).2.2
  have hB1 := hBA 338 1 (rw_ok338 hR).2.2
  have hh : h2 (mA M bd) pl = 2048 ↔ (mA A 338 0 = 8 ∧ mA A 338 1 = 0) := by
    rw [h2_2048, isB_8 hB0, isB_00 hB1, b7 0 (by omega), b7 1 (by omega)]
    rfl
  have hs0 : nI (65535 - f16 (f16 (sm (mA A 338) 0 n))) = 0 ↔ f16 (f16 (sm (mA A 338) 0 n)) = 65535 := ⟨fun e => by
    have : nI (65535 - f16 (f16 (sm (mA A 338) 0 n))) = nI 0 := e
    have := (nI_eq (by omega) (by omega)).mp this
    omega, fun e => by rw [e]; rfl⟩
  have hs1 : nI (f16 (f16 (sm (mA A 338) 0 n))) = (65535 : Int32) ↔ f16 (f16 (sm (mA A 338) 0 n)) = 65535 := nI_eq (b := 65535) (by omega) (by decide)
  by_cases c3 : ¬ (f16 (f16 (sm (mA A 338) 0 n)) = 65535 ∧ mA A 338 0 = 8 ∧ mA A 338 1 = 0)
  · have rA : ∀ Z : Option Mm, (if nI (65535 - f16 (f16 (sm (mA A 338) 0 n))) = 0 then (if mA A 338 0 = 8 then (if mA A 338 1 = 0 then Z else some A) else some A) else some A) = some A := fun Z => by
      by_cases d1 : f16 (f16 (sm (mA A 338) 0 n)) = 65535
      · rw [if_pos (hs0.mpr d1)]
        by_cases d2 : mA A 338 0 = 8
        · rw [if_pos d2]
          by_cases d3 : mA A 338 1 = 0
          · exact absurd ⟨d1, d2, d3⟩ c3
          · rw [if_neg d3]
        · rw [if_neg d2]
      · rw [if_neg (fun e => d1 (hs0.mp e))]
    have rM : ∀ Z : Option Mm, (if h2 (mA M bd) pl = 2048 then (if nI (f16 (f16 (sm (mA A 338) 0 n))) = (65535 : Int32) then Z else some M) else some M) = some M := fun Z => by
      by_cases d1 : h2 (mA M bd) pl = 2048
      · rw [if_pos d1]
        by_cases d2 : f16 (f16 (sm (mA A 338) 0 n)) = 65535
        · exact absurd ⟨d2, hh.mp d1⟩ c3
        · rw [if_neg (fun e => d2 (hs1.mp e))]
      · rw [if_neg d1]
    rw [rA, rM]
    exact same
  replace c3 := Classical.not_not.mp c3
  obtain ⟨c4, c5, c6⟩ := c3
  rw [if_pos (hs0.mpr c4), if_pos c5, if_pos c6, if_pos (hh.mpr ⟨c5, c6⟩), if_pos (hs1.mpr c4)]
  -- the frames
  obtain ⟨m, hm⟩ := m_echo_copy hR hBA (fu := fu) (n := n) (by omega) (by omega)
  have hn308 : bd ≠ 308 := b9
  have cp : cpB M (some bd) (nI pl) (some 308) (34 : Int32) (nI n) = some (wA M 308 (fun j => if 34 ≤ j ∧ j < 34 + n then mA M bd (pl + (j - 34)) else mA M 308 j)) := by
    rw [← sC_wA2]
    exact cpB_ok (dp := 34) b4 (xw_ok308 hW) hn308 b5 (by rw [xw_ln308 hW]; omega) b6 (by rw [xw_ln308 hW]; decide)
  rw [hm, fX16_echo_L52, if_pos (Int32.le_refl _)]
  generalize hG0 : (fun j => if 34 ≤ j ∧ j < 34 + n then mA A 338 (j - 34) else mA A 331 j) = G0
  generalize hH0 : (fun j => if 34 ≤ j ∧ j < 34 + n then mA M bd (pl + (j - 34)) else mA M 308 j) = H0 at cp
  have hGH : ∀ j, 34 ≤ j → j < 34 + n → G0 j = H0 j := fun j h1 h2 => by
    rw [← hG0, ← hH0]
    show (if 34 ≤ j ∧ j < 34 + n then mA A 338 (j - 34) else mA A 331 j) = (if 34 ≤ j ∧ j < 34 + n then mA M bd (pl + (j - 34)) else mA M 308 j)
    rw [if_pos ⟨h1, h2⟩, if_pos ⟨h1, h2⟩, b7 _ (by omega)]
  have hG35 : G0 35 = 0 := by
    rw [← hG0]
    show (if 34 ≤ 35 ∧ 35 < 34 + n then mA A 338 (35 - 34) else mA A 331 35) = 0
    rw [if_pos (by omega)]
    exact c6
  have hGB : ∀ j, isB (G0 j) := fun j => by
    rw [← hG0]
    show isB (if 34 ≤ j ∧ j < 34 + n then mA A 338 (j - 34) else mA A 331 j)
    split
    · exact hBA _ _ (rw_ok338 hR).2.2
    · exact hBA _ _ (rw_ok331 hR).2.2
  have hK : ∀ j, 34 ≤ j → j < 34 + n → up2 (up1 G0 34 0) 36 0 j = up4 H0 34 0 j := fun j h1 h2 => by
    unfold up2 up1 up4
    by_cases d1 : j = 34
    · subst d1; rfl
    · by_cases d2 : j = 35
      · subst d2
        show G0 35 = _
        rw [hG35]; rfl
      · by_cases d3 : j = 36
        · subst d3; rfl
        · by_cases d4 : j = 37
          · subst d4; rfl
          · show (if j = 36 then _ else if j = 37 then _ else if j = 34 then _ else G0 j) = (if j = 34 then _ else if j = 35 then _ else if j = 36 then _ else if j = 37 then _ else H0 j)
            rw [if_neg d3, if_neg d4, if_neg d1, if_neg d1, if_neg d2, if_neg d3, if_neg d4]
            exact hGH j h1 h2
  have hsK : sm (up4 H0 34 0) 34 n = sm (up2 (up1 G0 34 0) 36 0) 34 n := sm_congr n (fun j hj => (hK _ (by omega) (by omega)).symm)
  have hslK := sm_le (up2 (up1 G0 34 0) 36 0) 34 n
  have hR1 : ∀ g, RW (wA A 331 g) := fun g => hR
  have hW1 : ∀ g, XW (wA M 308 g) := fun g => hW
  have ma2 : fX16_added fu (some 331) (34 : Int32) (nI n) (0 : Int64) (wA A 331 (up2 (up1 G0 34 0) 36 0)) = some (lN (sm (up2 (up1 G0 34 0) 36 0) 34 n), wA A 331 (up2 (up1 G0 34 0) 36 0)) := by
    have := m_added (M := wA A 331 (up2 (up1 G0 34 0) 36 0)) (a := 331) (f := 34) (e := n) (s0 := 0) (fu := fu) (rw_ok331 (hR1 _)) (by rw [rw_ln331 (hR1 _)]; decide) (by rw [rw_ln331 (hR1 _)]; omega) (by omega)
    rw [Nat.zero_add, mA_wA_self] at this
    exact this
  have msx2 : fX16_sixteen fu (lN (sm (up2 (up1 G0 34 0) 36 0) 34 n)) (wA A 331 (up2 (up1 G0 34 0) 36 0)) = some (nI (65535 - f16 (f16 (sm (up2 (up1 G0 34 0) 36 0) 34 n))), wA A 331 (up2 (up1 G0 34 0) 36 0)) := m_sixteen (by omega) (by omega) _
  have xa2 : fX11_added fu (some 308) (34 : Int32) (nI n) (0 : Int32) (wA M 308 (up4 H0 34 0)) = some (nI (f16 (f16 (sm (up2 (up1 G0 34 0) 36 0) 34 n))), wA M 308 (up4 H0 34 0)) := by
    have := x_added (M := wA M 308 (up4 H0 34 0)) (a := 308) (f := 34) (e := n) (s0 := 0) (fu := fu) (xw_ok308 (hW1 _)) (by rw [xw_ln308 (hW1 _)]; decide) (by rw [xw_ln308 (hW1 _)]; omega) (by omega) (by rw [mA_wA_self, hsK]; omega)
    rw [Nat.zero_add, mA_wA_self, hsK] at this
    exact this
  have hb16 := f16_2 (s := sm (up2 (up1 G0 34 0) 36 0) 34 n) (by omega)
  have e2 := up2_bits (g := up4 H0 34 0) (i := 36) (not_sixteen hb16)
  have p1 : fX16_put fu 323 (34 : Int32) 1 0 (wA A 331 G0) = some (wA A 331 (up1 G0 34 0)) := by
    have := m_put1 (M := wA A 331 G0) (hR1 _) hf (i := 34) (by decide) 0
    rw [mA_wA_self, wA_wA] at this
    exact this
  have p2 : fX16_put fu 323 (36 : Int32) 2 0 (wA A 331 (up1 G0 34 0)) = some (wA A 331 (up2 (up1 G0 34 0) 36 0)) := by
    have := m_put2 (M := wA A 331 (up1 G0 34 0)) (hR1 _) hf (i := 36) (by decide) 0
    rw [mA_wA_self, wA_wA] at this
    exact this
  have p3 : ∀ v, fX16_put fu 323 (36 : Int32) 2 v (wA A 331 (up2 (up1 G0 34 0) 36 0)) = some (wA A 331 (up2 (up2 (up1 G0 34 0) 36 0) 36 v)) := fun v => by
    have := m_put2 (M := wA A 331 (up2 (up1 G0 34 0) 36 0)) (hR1 _) hf (i := 36) (by decide) v
    rw [mA_wA_self, wA_wA] at this
    exact this
  have r4 : fX11_putFour fu (some 308) (34 : Int32) 0 (wA M 308 H0) = some (wA M 308 (up4 H0 34 0)) := by
    have := x_put4 (M := wA M 308 H0) fu (a := 308) (xw_ok308 (hW1 _)) (by rw [xw_ln308 (hW1 _)]; decide) (i := 34) (by rw [xw_ln308 (hW1 _)]; decide) 0
    rw [mA_wA_self, wA_wA] at this
    exact this
  have r2 : ∀ v, fX11_putTwo fu (some 308) (36 : Int32) v (wA M 308 (up4 H0 34 0)) = some (wA M 308 (up2 (up4 H0 34 0) 36 v)) := fun v => by
    have := x_put2 (M := wA M 308 (up4 H0 34 0)) fu (a := 308) (xw_ok308 (hW1 _)) (by rw [xw_ln308 (hW1 _)]; decide) (i := 36) (by rw [xw_ln308 (hW1 _)]; decide) v
    rw [mA_wA_self, wA_wA] at this
    exact this
  have hJ1 := JL0_fr (up2 (up2 (up1 G0 34 0) 36 0) 36 (nI (65535 - f16 (f16 (sm (up2 (up1 G0 34 0) 36 0) 34 n))))) (JL0_out (up2 (up4 H0 34 0) 36 (nI (65535 - f16 (f16 (sm (up2 (up1 G0 34 0) 36 0) 34 n))))) hJ)
  obtain ⟨A', M', T', z1, z2, z3, z4, z5, z6, z7⟩ := sp_ipOut fu (by omega) (len := n) hJ1 (By_wA hBA (fun _ => isB_up2 (isB_up2 (isB_up1 hGB _ _) _ _) _ _)) hT2 (by omega) (by omega) (fun j h1 h2 => by
    rw [mA_wA_self, mA_wA_self]
    exact up2_c (fun _ _ => hK j h1 h2)) (mF M 193 314) 1
  refine ⟨A', M', T', ?_, ?_, z3, z4, z5, (FrA_wA _).tr z6, (FrM_wA _).tr z7⟩
  · have e54 : mF (wA A 331 (up2 (up2 (up1 G0 34 0) 36 0) 36 (nI (65535 - f16 (f16 (sm (up2 (up1 G0 34 0) 36 0) 34 n)))))) 1054 323 = (mF M 193 314) := b8
    rw [rc_ok (rw_ok323 (hR1 _)), ob_some, p1, ob_some, rc_ok (rw_ok323 (hR1 _)), ob_some, p2, ob_some, gR_ok (rw_ok323 (hR1 _)), ob_some, rw_g1043_323 (hR1 _), ma2, b2_some, msx2, b2_some, rc_ok (rw_ok323 (hR1 _)), ob_some, p3, ob_some, gI_ok (rw_ok323 (hR1 _)), ob_some, e54, rc_ok (rw_ok323 (hR1 _)), ob_some, z1, ob_some]
  · simp only [xw_g206_314 hW, gR_ok (xw_ok307 hW), xw_g256_307 hW, ob_some, cp, gR_ok (xw_ok314 (hW1 _)), xw_g206_314 (hW1 _), gR_ok (xw_ok307 (hW1 _)), xw_g256_307 (hW1 _), r4, gI_ok (xw_ok314 (hW1 _)), mF_wA, b3, xa2, b2_some, r2, e2, rc_ok (xw_ok307 (hW1 _)), z2]
end Echo
