/-! ===== part 99n: the head of a segment is read, in both ===== -/
section TcpHead
variable {A M : Mm}
theorem sh4 : ∀ n, n < 256 → (nI n : Int32) >>> ((4 : Int32) &&& 31) = nI (n / 16) := by decide +kernel
theorem b_15 (i : Nat) : bt 15 i = decide (i < 4) := by
  by_cases h : i < 32
  · have : ∀ i, i < 32 → bt 15 i = decide (i < 4) := by decide +kernel
    exact this i h
  · rw [b_big (by omega)]
    exact (decide_eq_false (by omega)).symm
theorem b_31 (i : Nat) : bt 31 i = decide (i < 5) := by
  by_cases h : i < 32
  · have : ∀ i, i < 32 → bt 31 i = decide (i < 5) := by decide +kernel
    exact this i h
  · rw [b_big (by omega)]
    exact (decide_eq_false (by omega)).symm
theorem hl_u8 (v : Int32) : (u8 v >>> ((4 : Int32) &&& 31)) = nI (bv v / 16) := by
  rw [u8_bv]
  exact sh4 _ (bv_lt v)
theorem hl_and (v : Int32) : (v >>> ((4 : Int32) &&& 31)) &&& (15 : Int32) = nI (bv v / 16) := by
  rw [← hl_u8]
  refine b_ext fun i hi => ?_
  have e1 : bt (v >>> ((4 : Int32) &&& 31)) i = if 4 + i < 32 then bt v (4 + i) else bt v 31 := b_sshr 4 (by decide) v hi
  have e2 : bt (u8 v >>> ((4 : Int32) &&& 31)) i = if 4 + i < 32 then bt (u8 v) (4 + i) else bt (u8 v) 31 := b_sshr 4 (by decide) (u8 v) hi
  rw [b_and, e1, e2, b_15, u8_bt, u8_bt]
  by_cases h : i < 4
  · rw [decide_eq_true h, Bool.and_true, if_pos (by omega), if_pos (by omega), decide_eq_true (show 4 + i < 8 by omega), Bool.and_true]
  · rw [decide_eq_false h, Bool.and_false]
    by_cases h2 : 4 + i < 32
    · rw [if_pos h2, decide_eq_false (show ¬ 4 + i < 8 by omega), Bool.and_false]
    · rw [if_neg h2, decide_eq_false (show ¬ 31 < 8 by omega), Bool.and_false]
theorem u8_31 (v : Int32) : u8 v &&& 31 = v &&& 31 := by
  refine b_ext fun i hi => ?_
  rw [b_and, u8_bt, b_and, b_31]
  by_cases h : i < 5
  · rw [decide_eq_true h, decide_eq_true (show i < 8 by omega), Bool.and_true]
  · rw [decide_eq_false h, Bool.and_false, Bool.and_false]
/-- shape and rows are the same -/
def SaR (M X : Mm) : Prop := mS X = mS M ∧ mG X = mG M ∧ mB X = mB M ∧ mA X = mA M
theorem SaR.s (M X : Mm) (f a : Nat) (v : Int32) : SaR M (sF X f a v) = SaR M X := rfl
theorem SaR.rf (M : Mm) : SaR M M := ⟨rfl, rfl, rfl, rfl⟩
/-- the notes of a segment's head -/
def hdA (A : Mm) (e he : Nat) : Mm := sF (sF (sF (sF (sF (sF (sF (sF (sF A 1064 323 (nI he)) 1056 323 (h2 (mA A 338) 0)) 1057 323 (h2 (mA A 338) 2)) 1058 323 (w4 (mA A 338) 4)) 1059 323 (w4 (mA A 338) 8)) 1060 323 (mA A 338 13 &&& (31 : Int32))) 1061 323 (h2 (mA A 338) 14)) 1062 323 (nI he)) 1063 323 (nI (e - he))
def hdX (M : Mm) (g : Nat → Int32) (pl e he : Nat) : Mm := sF (sF (sF (sF (sF (sF (sF (sF M 194 314 (h2 g 0)) 195 314 (h2 g 2)) 196 314 (w4 g 4)) 197 314 (w4 g 8)) 198 314 (u8 (g 13))) 199 314 (h2 g 14)) 200 314 (nI (pl + he))) 201 314 (nI (e - he))
theorem sp_tcpHead (fu : Nat) (hfu : 5000 ≤ fu) {KN KS t T e bd pl : Nat} (hJ : JL0 KN KS t T A M) (hBA : By A) (hBM : By M) (hB : BodyR e bd pl A M) :
    (∃ A', fX16_tcp fu 323 (nI e) A = some A' ∧ fX3_readSegment fu 314 M = some (0, M) ∧ FF (fun f => f = 1064) 323 A A') ∨
    (∃ he w, 20 ≤ he ∧ he ≤ 60 ∧ he ≤ e ∧ fX16_tcp fu 323 (nI e) A = fX16_tcp_L154 fu fu 323 none (0 : Int32) (hdA A e he) ∧ fX3_readSegment fu 314 M = some (1, hdX M (mA A 338) pl e he) ∧ SG (hdA A e he) (hdX M (mA A 338) pl e he) bd he (pl + he) (e - he) w ∧ HS (hdA A e he) (hdX M (mA A 338) pl e he) bd pl he) := by
  have hR := hJ.1
  have hW := hJ.2.1
  obtain ⟨p1, -⟩ := hJ.2.2.2.2.1
  have o := rw_ok323 hR
  have ox := xw_ok314 hW
  obtain ⟨b1, b2', b3, b4, b5, b6, b7, b8, b9, b10, b11, b12, b13⟩ := hB
  have o338 := rw_ok338 hR
  have l338 := rw_ln338 hR
  obtain ⟨one, x12⟩ : ∃ v, fX11_one fu (some bd) (nI (pl + 12)) M = some (v, M) := ⟨_, x_onez fu b4 b6 (i := pl + 12) (by omega)⟩
  have e12 : (nI pl : Int32) + (12 : Int32) = nI (pl + 12) := nI_add pl 12
  obtain ⟨ra, hra⟩ : ∃ ra, fX16_tcp fu 323 (nI e) A = ra := ⟨_, rfl⟩
  obtain ⟨rx, hrx⟩ : ∃ rx, fX3_readSegment fu 314 M = rx := ⟨_, rfl⟩
  rw [hra, hrx]
  unfold fX16_tcp at hra
  unfold fX3_readSegment at hrx
  rw [gR_ok ox, ob_some, b1, gI_ok ox, ob_some, b2', e12, x12, b2_some, ob_some, gI_ok ox, ob_some, b3] at hrx
  have L20 : ∀ x, x < 20 → (nI x : Int32) < (20 : Int32) := fun x hx => nI_lt (b := 20) hx (by decide)
  have G20 : ∀ x, 20 ≤ x → x < 2 ^ 30 → ¬ (nI x : Int32) < (20 : Int32) := fun x hx h2 => nI_nlt (b := 20) hx (by omega)
  by_cases q20 : 20 ≤ e
  · rw [if_pos (show (20 : Int32) ≤ nI e from nI_le (a := 20) q20 (by omega)), gR_ok o, ob_some, rw_g1053_323 hR, show gA A 100 (some 338) (12 : Int32) = some (mA A 338 12) from gA_ok (i := 12) o338 (by rw [l338]; decide) (by decide), ob_some, hl_and] at hra
    rw [if_neg (G20 e q20 (by omega))] at hrx
    have eone : one = u8 (mA A 338 12) := by
      have := x_one fu b4 b6 (i := pl + 12) (by omega)
      rw [x12] at this
      have := congrArg Prod.fst (Option.some.inj this)
      rw [show one = u8 (mA M bd (pl + 12)) from this, b7 12 (by omega)]
    rw [eone, hl_u8] at hrx
    have lb : bv (mA A 338 12) / 16 < 16 := by have := bv_lt (mA A 338 12); omega
    generalize bv (mA A 338 12) / 16 = q at lb hra hrx
    rw [show (nI q : Int32) * (4 : Int32) = nI (q * 4) from pk_mul q 4] at hra hrx
    generalize hhe : q * 4 = he at hra hrx
    have he60 : he ≤ 60 := by omega
    have e64 : mF (sF A 1064 323 (nI he)) 1064 323 = nI he := by rw [mF_sF, if_pos ⟨rfl, rfl⟩]
    have eF : ∀ f, f ≠ 1064 → mF (sF A 1064 323 (nI he)) f 323 = mF A f 323 := fun f hf => by rw [mF_sF, if_neg (fun z => hf z.1)]
    have o1 : okA (sF A 1064 323 (nI he)) 16 323 := o
    rw [pF_ok o, ob_some, gI_ok o1, ob_some, e64] at hra
    by_cases q2 : he < 20
    · rw [if_pos (L20 he q2)] at hra
      rw [if_pos (L20 he q2), rN0] at hrx
      exact Or.inl ⟨_, hra.symm, hrx.symm, FF.s _ rfl⟩
    · rw [if_neg (G20 he (by omega) (by omega)), ob_some] at hra
      rw [if_neg (G20 he (by omega) (by omega)), ob_some] at hrx
      by_cases q3 : he ≤ e
      · rw [if_neg (nI_nlt q3 (by omega))] at hra
        rw [if_pos (nI_le q3 (by omega))] at hrx
        have hR1 : RW (sF A 1064 323 (nI he)) := hR
        have hsm : sm (mA A 338) 0 e = sm (mA M bd) pl e := sm_congr e (fun j hj => by rw [Nat.zero_add]; exact b7 j hj)
        have sle := sm_le (mA A 338) 0 e
        have ple := pN_le (mF A 1054 323) (mF A 1029 323) e
        have bnd : pN (mF A 1054 323) (mF A 1029 323) e + sm (mA A 338) 0 e < 2 ^ 31 := by
          have : 65280 * e ≤ 65280 * 4096 := Nat.mul_le_mul_left _ b13
          omega
        have ma : fX16_added fu (some 338) (0 : Int32) (nI e) (lN (pN (mF A 1054 323) (mF A 1029 323) e)) (sF A 1064 323 (nI he)) = some (lN (pN (mF A 1054 323) (mF A 1029 323) e + sm (mA A 338) 0 e), sF A 1064 323 (nI he)) := m_added (M := sF A 1064 323 (nI he)) (a := 338) (f := 0) (e := e) (fu := fu) (rw_ok338 hR1) (by rw [rw_ln338 hR1]; decide) (by rw [rw_ln338 hR1]; omega) (by omega)
        have xa : fX11_added fu (some bd) (nI pl) (nI e) (nI (pN (mF A 1054 323) (mF A 1029 323) e)) M = some (nI (f16 (f16 (pN (mF A 1054 323) (mF A 1029 323) e + sm (mA A 338) 0 e))), M) := by
          rw [hsm]
          exact x_added b4 b6 b5 (by omega) (by rw [← hsm]; exact bnd)
        have f16l := f16_2 bnd
        have i8 : mG M 206 314 = some 307 := xw_g206_314 hW
        rw [gR_ok o1, ob_some, rw_g1053_323 hR1, gI_ok o1, ob_some, eF 1054 (by decide), gI_ok o1, ob_some, eF 1029 (by decide), rc_ok o1, ob_some, m_pseudo fu _ _ (by omega), b2_some, ma, b2_some, m_sixteen (by omega) bnd, b2_some] at hra
        rw [gR_ok ox, ob_some, b1, gI_ok ox, ob_some, b2', ob_some, gI_ok ox, ob_some, ← b8, gR_ok ox, ob_some, i8, gI_ok (xw_ok307 hW), ob_some, ← p1, ob_some, x_pseudo, b2_some, xa, b2_some] at hrx
        generalize hf : f16 (f16 (pN (mF A 1054 323) (mF A 1029 323) e + sm (mA A 338) 0 e)) = S at f16l hra hrx
        by_cases q4 : S = 65535
        · rw [q4, if_pos (show (nI (65535 - 65535) : Int32) = 0 from rfl)] at hra
          rw [q4, if_pos (show (nI 65535 : Int32) = (65535 : Int32) from rfl)] at hrx
          have mh : ∀ (i : Nat) (X : Mm), i + 2 ≤ 4096 → SaR A X → fX16_half fu 323 (nI i) X = some (h2 (mA A 338) i, X) := fun i X hi hX => by rw [m_half (RW_of hX.1 hX.2.1 hX.2.2.1 hR) fu hi, hX.2.2.2]
          have mw : ∀ (i : Nat) (X : Mm), i + 4 ≤ 4096 → SaR A X → fX16_wholeWord fu 323 (nI i) X = some (w4 (mA A 338) i, X) := fun i X hi hX => by rw [m_wholeWord (RW_of hX.1 hX.2.1 hX.2.2.1 hR) fu hi, hX.2.2.2]
          have mh0 : ∀ X, SaR A X → fX16_half fu 323 (0 : Int32) X = some (h2 (mA A 338) 0, X) := fun X => mh 0 X (by decide)
          have mh2 : ∀ X, SaR A X → fX16_half fu 323 (2 : Int32) X = some (h2 (mA A 338) 2, X) := fun X => mh 2 X (by decide)
          have mh14 : ∀ X, SaR A X → fX16_half fu 323 (14 : Int32) X = some (h2 (mA A 338) 14, X) := fun X => mh 14 X (by decide)
          have mw4 : ∀ X, SaR A X → fX16_wholeWord fu 323 (4 : Int32) X = some (w4 (mA A 338) 4, X) := fun X => mw 4 X (by decide)
          have mw8 : ∀ X, SaR A X → fX16_wholeWord fu 323 (8 : Int32) X = some (w4 (mA A 338) 8, X) := fun X => mw 8 X (by decide)
          have g13 : ∀ X, SaR A X → gA X 100 (some 338) (13 : Int32) = some (mA A 338 13) := fun X hX => by
            have hX' := RW_of hX.1 hX.2.1 hX.2.2.1 hR
            have := gA_ok (M := X) (i := 13) (rw_ok338 hX') (by rw [rw_ln338 hX']; decide) (by decide)
            rw [hX.2.2.2] at this
            exact this
          have g1053 : ∀ X, SaR A X → mG X 1053 323 = some 338 := fun X hX => by rw [hX.2.1]; exact rw_g1053_323 hR
          have sA := SaR.rf A
          have sM := SaR.rf M
          have bh : ∀ i, i + 2 ≤ e → h2 (mA M bd) (pl + i) = h2 (mA A 338) i := fun i hi => by
            unfold h2
            rw [b7 i (by omega), b7 (i + 1) (by omega)]
            rfl
          have bw : ∀ i, i + 4 ≤ e → w4 (mA M bd) (pl + i) = w4 (mA A 338) i := fun i hi => by
            unfold w4
            rw [bh i (by omega), show pl + i + 2 = pl + (i + 2) by omega, bh (i + 2) (by omega)]
          have xo : ∀ X, mS X = mS M → okA X 100 bd := fun X hX => by unfold okA; rw [hX]; exact b4
          have xt : ∀ (i : Nat) (X : Mm), i + 2 ≤ e → SaR M X → fX11_two fu (some bd) (nI (pl + i)) X = some (h2 (mA A 338) i, X) := fun i X hi hX => by
            rw [x_two fu (xo X hX.1) (by rw [hX.1]; exact b6) (by rw [hX.1]; omega), hX.2.2.2, bh i hi]
          have xf : ∀ (i : Nat) (X : Mm), i + 4 ≤ e → SaR M X → fX11_four fu (some bd) (nI (pl + i)) X = some (w4 (mA A 338) i, X) := fun i X hi hX => by
            rw [x_four fu (xo X hX.1) (by rw [hX.1]; exact b6) (by rw [hX.1]; omega), hX.2.2.2, bw i hi]
          have xt0 : ∀ X, SaR M X → fX11_two fu (some bd) (nI pl) X = some (h2 (mA A 338) 0, X) := fun X => xt 0 X (by omega)
          have xt2 : ∀ X, SaR M X → fX11_two fu (some bd) (nI pl + (2 : Int32)) X = some (h2 (mA A 338) 2, X) := fun X h1 => by rw [show (nI pl : Int32) + (2 : Int32) = nI (pl + 2) from nI_add pl 2]; exact xt 2 X (by omega) h1
          have xt14 : ∀ X, SaR M X → fX11_two fu (some bd) (nI pl + (14 : Int32)) X = some (h2 (mA A 338) 14, X) := fun X h1 => by rw [show (nI pl : Int32) + (14 : Int32) = nI (pl + 14) from nI_add pl 14]; exact xt 14 X (by omega) h1
          have xf4 : ∀ X, SaR M X → fX11_four fu (some bd) (nI pl + (4 : Int32)) X = some (w4 (mA A 338) 4, X) := fun X h1 => by rw [show (nI pl : Int32) + (4 : Int32) = nI (pl + 4) from nI_add pl 4]; exact xf 4 X (by omega) h1
          have xf8 : ∀ X, SaR M X → fX11_four fu (some bd) (nI pl + (8 : Int32)) X = some (w4 (mA A 338) 8, X) := fun X h1 => by rw [show (nI pl : Int32) + (8 : Int32) = nI (pl + 8) from nI_add pl 8]; exact xf 8 X (by omega) h1
          have xo13 : ∀ X, SaR M X → fX11_one fu (some bd) (nI pl + (13 : Int32)) X = some (u8 (mA A 338 13), X) := fun X hX => by rw [show (nI pl : Int32) + (13 : Int32) = nI (pl + 13) from nI_add pl 13, x_one fu (xo X hX.1) (by rw [hX.1]; exact b6) (by rw [hX.1]; omega), hX.2.2.2, b7 13 (by omega)]
          have sH : ∀ {β : Type} (X : Mm) (c : Int32) (i f : Nat) (K : Mm → Option β), SaR A X → c = nI i → i + 2 ≤ 4096 → ((rc X 16 (some 323)).bind fun q16 => b2 (fX16_half fu q16 c X) fun v18 M17 => (pF M17 16 f (some 323) v18).bind fun M19 => K M19) = K (sF X f 323 (h2 (mA A 338) i)) := fun X c i f K hX hc hi => by
            have oX : okA X 16 323 := by unfold okA; rw [hX.1]; exact o
            rw [hc, rc_ok oX, ob_some, mh i X hi hX, b2_some, pF_ok oX, ob_some]
          have sW : ∀ {β : Type} (X : Mm) (c : Int32) (i f : Nat) (K : Mm → Option β), SaR A X → c = nI i → i + 4 ≤ 4096 → ((rc X 16 (some 323)).bind fun q16 => b2 (fX16_wholeWord fu q16 c X) fun v18 M17 => (pF M17 16 f (some 323) v18).bind fun M19 => K M19) = K (sF X f 323 (w4 (mA A 338) i)) := fun X c i f K hX hc hi => by
            have oX : okA X 16 323 := by unfold okA; rw [hX.1]; exact o
            rw [hc, rc_ok oX, ob_some, mw i X hi hX, b2_some, pF_ok oX, ob_some]
          have sX : ∀ {β : Type} (X : Mm) (f : Nat) (val : Int32) (g : Nat → Option Nat → Int32 → Mm → Option (Int32 × Mm)) (c : Int32) (K : Mm → Option β), SaR M X → mF X 202 314 = nI pl → g fu (some bd) (nI pl + c) X = some (val, X) → ((gR X 3 192 (some 314)).bind fun v19 => (gI X 3 202 (some 314)).bind fun v20 => b2 (g fu v19 (v20 + c) X) fun v22 M21 => (pF M21 3 f (some 314) v22).bind fun M23 => K M23) = K (sF X f 314 val) := fun X f val g c K hX hp hg => by
            have oX : okA X 3 314 := by unfold okA; rw [hX.1]; exact ox
            rw [gR_ok oX, ob_some, hX.2.1, b1, gI_ok oX, ob_some, hp, hg, b2_some, pF_ok oX, ob_some]
          have exA : ∀ {β : Type} (K : Mm → Option β), ((rc (sF A 1064 323 (nI he)) 16 (some 323)).bind fun q16 => b2 (fX16_half fu q16 (0 : Int32) (sF A 1064 323 (nI he))) fun v18 M17 => (pF M17 16 1056 (some 323) v18).bind fun M19 => (rc M19 16 (some 323)).bind fun q20 => b2 (fX16_half fu q20 (2 : Int32) M19) fun v22 M21 => (pF M21 16 1057 (some 323) v22).bind fun M23 => (rc M23 16 (some 323)).bind fun q24 => b2 (fX16_wholeWord fu q24 (4 : Int32) M23) fun v26 M25 => (pF M25 16 1058 (some 323) v26).bind fun M27 => (rc M27 16 (some 323)).bind fun q28 => b2 (fX16_wholeWord fu q28 (8 : Int32) M27) fun v30 M29 => (pF M29 16 1059 (some 323) v30).bind fun M31 => (gR M31 16 1053 (some 323)).bind fun v32 => (gA M31 100 v32 (13 : Int32)).bind fun v33 => (pF M31 16 1060 (some 323) (v33 &&& (31 : Int32))).bind fun M34 => (rc M34 16 (some 323)).bind fun q35 => b2 (fX16_half fu q35 (14 : Int32) M34) fun v37 M36 => (pF M36 16 1061 (some 323) v37).bind fun M38 => (gI M38 16 1064 (some 323)).bind fun v39 => (pF M38 16 1062 (some 323) v39).bind fun M40 => (gI M40 16 1064 (some 323)).bind fun v41 => (pF M40 16 1063 (some 323) (nI e - v41)).bind fun M42 => K M42) = K (hdA A e he) := fun K => by
            refine (sH (sF A 1064 323 (nI he)) 0 0 1056 _ (SaR.rf A) rfl (by decide)).trans ?_
            refine (sH (sF (sF A 1064 323 (nI he)) 1056 323 (h2 (mA A 338) 0)) 2 2 1057 _ (SaR.rf A) rfl (by decide)).trans ?_
            refine (sW (sF (sF (sF A 1064 323 (nI he)) 1056 323 (h2 (mA A 338) 0)) 1057 323 (h2 (mA A 338) 2)) 4 4 1058 _ (SaR.rf A) rfl (by decide)).trans ?_
            refine (sW (sF (sF (sF (sF A 1064 323 (nI he)) 1056 323 (h2 (mA A 338) 0)) 1057 323 (h2 (mA A 338) 2)) 1058 323 (w4 (mA A 338) 4)) 8 8 1059 _ (SaR.rf A) rfl (by decide)).trans ?_
            rw [gR_ok (show okA (sF (sF (sF (sF (sF A 1064 323 (nI he)) 1056 323 (h2 (mA A 338) 0)) 1057 323 (h2 (mA A 338) 2)) 1058 323 (w4 (mA A 338) 4)) 1059 323 (w4 (mA A 338) 8)) 16 323 from o), ob_some, g1053 (sF (sF (sF (sF (sF A 1064 323 (nI he)) 1056 323 (h2 (mA A 338) 0)) 1057 323 (h2 (mA A 338) 2)) 1058 323 (w4 (mA A 338) 4)) 1059 323 (w4 (mA A 338) 8)) (SaR.rf A), g13 (sF (sF (sF (sF (sF A 1064 323 (nI he)) 1056 323 (h2 (mA A 338) 0)) 1057 323 (h2 (mA A 338) 2)) 1058 323 (w4 (mA A 338) 4)) 1059 323 (w4 (mA A 338) 8)) (SaR.rf A), ob_some, pF_ok (show okA (sF (sF (sF (sF (sF A 1064 323 (nI he)) 1056 323 (h2 (mA A 338) 0)) 1057 323 (h2 (mA A 338) 2)) 1058 323 (w4 (mA A 338) 4)) 1059 323 (w4 (mA A 338) 8)) 16 323 from o), ob_some]
            refine (sH (sF (sF (sF (sF (sF (sF A 1064 323 (nI he)) 1056 323 (h2 (mA A 338) 0)) 1057 323 (h2 (mA A 338) 2)) 1058 323 (w4 (mA A 338) 4)) 1059 323 (w4 (mA A 338) 8)) 1060 323 (mA A 338 13 &&& (31 : Int32))) 14 14 1061 _ (SaR.rf A) rfl (by decide)).trans ?_
            rw [gI_ok (show okA (sF (sF (sF (sF (sF (sF (sF A 1064 323 (nI he)) 1056 323 (h2 (mA A 338) 0)) 1057 323 (h2 (mA A 338) 2)) 1058 323 (w4 (mA A 338) 4)) 1059 323 (w4 (mA A 338) 8)) 1060 323 (mA A 338 13 &&& (31 : Int32))) 1061 323 (h2 (mA A 338) 14)) 16 323 from o), ob_some, show mF (sF (sF (sF (sF (sF (sF (sF A 1064 323 (nI he)) 1056 323 (h2 (mA A 338) 0)) 1057 323 (h2 (mA A 338) 2)) 1058 323 (w4 (mA A 338) 4)) 1059 323 (w4 (mA A 338) 8)) 1060 323 (mA A 338 13 &&& (31 : Int32))) 1061 323 (h2 (mA A 338) 14)) 1064 323 = nI he from by simp only [mF_sF, reduceIte, Nat.reduceEqDiff, Nat.reduceAdd, Nat.reduceMul, Nat.reduceLT, Nat.reduceLeDiff, and_true, true_and, and_false, false_and, and_self, ne_eq, not_true_eq_false, not_false_eq_true, Option.some.injEq, reduceCtorEq], pF_ok (show okA (sF (sF (sF (sF (sF (sF (sF A 1064 323 (nI he)) 1056 323 (h2 (mA A 338) 0)) 1057 323 (h2 (mA A 338) 2)) 1058 323 (w4 (mA A 338) 4)) 1059 323 (w4 (mA A 338) 8)) 1060 323 (mA A 338 13 &&& (31 : Int32))) 1061 323 (h2 (mA A 338) 14)) 16 323 from o), ob_some, gI_ok (show okA (sF (sF (sF (sF (sF (sF (sF (sF A 1064 323 (nI he)) 1056 323 (h2 (mA A 338) 0)) 1057 323 (h2 (mA A 338) 2)) 1058 323 (w4 (mA A 338) 4)) 1059 323 (w4 (mA A 338) 8)) 1060 323 (mA A 338 13 &&& (31 : Int32))) 1061 323 (h2 (mA A 338) 14)) 1062 323 (nI he)) 16 323 from o), ob_some, show mF (sF (sF (sF (sF (sF (sF (sF (sF A 1064 323 (nI he)) 1056 323 (h2 (mA A 338) 0)) 1057 323 (h2 (mA A 338) 2)) 1058 323 (w4 (mA A 338) 4)) 1059 323 (w4 (mA A 338) 8)) 1060 323 (mA A 338 13 &&& (31 : Int32))) 1061 323 (h2 (mA A 338) 14)) 1062 323 (nI he)) 1064 323 = nI he from by simp only [mF_sF, reduceIte, Nat.reduceEqDiff, Nat.reduceAdd, Nat.reduceMul, Nat.reduceLT, Nat.reduceLeDiff, and_true, true_and, and_false, false_and, and_self, ne_eq, not_true_eq_false, not_false_eq_true, Option.some.injEq, reduceCtorEq], nI_sub q3, pF_ok (show okA (sF (sF (sF (sF (sF (sF (sF (sF A 1064 323 (nI he)) 1056 323 (h2 (mA A 338) 0)) 1057 323 (h2 (mA A 338) 2)) 1058 323 (w4 (mA A 338) 4)) 1059 323 (w4 (mA A 338) 8)) 1060 323 (mA A 338 13 &&& (31 : Int32))) 1061 323 (h2 (mA A 338) 14)) 1062 323 (nI he)) 16 323 from o), ob_some]
            rfl
          have exM : ∀ {β : Type} (K : Mm → Option β), ((gR M 3 192 (some 314)).bind fun v19 => (gI M 3 202 (some 314)).bind fun v20 => b2 (fX11_two fu v19 v20 M) fun v22 M21 => (pF M21 3 194 (some 314) v22).bind fun M23 => (gR M23 3 192 (some 314)).bind fun v24 => (gI M23 3 202 (some 314)).bind fun v25 => b2 (fX11_two fu v24 (v25 + (2 : Int32)) M23) fun v27 M26 => (pF M26 3 195 (some 314) v27).bind fun M28 => (gR M28 3 192 (some 314)).bind fun v29 => (gI M28 3 202 (some 314)).bind fun v30 => b2 (fX11_four fu v29 (v30 + (4 : Int32)) M28) fun v32 M31 => (pF M31 3 196 (some 314) v32).bind fun M33 => (gR M33 3 192 (some 314)).bind fun v34 => (gI M33 3 202 (some 314)).bind fun v35 => b2 (fX11_four fu v34 (v35 + (8 : Int32)) M33) fun v37 M36 => (pF M36 3 197 (some 314) v37).bind fun M38 => (gR M38 3 192 (some 314)).bind fun v39 => (gI M38 3 202 (some 314)).bind fun v40 => b2 (fX11_one fu v39 (v40 + (13 : Int32)) M38) fun v42 M41 => (pF M41 3 198 (some 314) v42).bind fun M43 => (gR M43 3 192 (some 314)).bind fun v44 => (gI M43 3 202 (some 314)).bind fun v45 => b2 (fX11_two fu v44 (v45 + (14 : Int32)) M43) fun v47 M46 => (pF M46 3 199 (some 314) v47).bind fun M48 => (gI M48 3 202 (some 314)).bind fun v49 => (pF M48 3 200 (some 314) (v49 + nI he)).bind fun M50 => (gI M50 3 203 (some 314)).bind fun v51 => (pF M50 3 201 (some 314) (v51 - nI he)).bind fun M52 => K M52) = K (hdX M (mA A 338) pl e he) := fun K => by
            rw [gR_ok ox, ob_some, b1, gI_ok ox, ob_some, b2', xt0 M (SaR.rf M), b2_some, pF_ok ox, ob_some]
            refine (sX (sF M 194 314 (h2 (mA A 338) 0)) 195 (h2 (mA A 338) 2) fX11_two (2 : Int32) _ (SaR.rf M) (by simp only [mF_sF, reduceIte, Nat.reduceEqDiff, Nat.reduceAdd, Nat.reduceMul, Nat.reduceLT, Nat.reduceLeDiff, and_true, true_and, and_false, false_and, and_self, ne_eq, not_true_eq_false, not_false_eq_true, Option.some.injEq, reduceCtorEq]; exact b2') (xt2 (sF M 194 314 (h2 (mA A 338) 0)) (SaR.rf M))).trans ?_
            refine (sX (sF (sF M 194 314 (h2 (mA A 338) 0)) 195 314 (h2 (mA A 338) 2)) 196 (w4 (mA A 338) 4) fX11_four (4 : Int32) _ (SaR.rf M) (by simp only [mF_sF, reduceIte, Nat.reduceEqDiff, Nat.reduceAdd, Nat.reduceMul, Nat.reduceLT, Nat.reduceLeDiff, and_true, true_and, and_false, false_and, and_self, ne_eq, not_true_eq_false, not_false_eq_true, Option.some.injEq, reduceCtorEq]; exact b2') (xf4 (sF (sF M 194 314 (h2 (mA A 338) 0)) 195 314 (h2 (mA A 338) 2)) (SaR.rf M))).trans ?_
            refine (sX (sF (sF (sF M 194 314 (h2 (mA A 338) 0)) 195 314 (h2 (mA A 338) 2)) 196 314 (w4 (mA A 338) 4)) 197 (w4 (mA A 338) 8) fX11_four (8 : Int32) _ (SaR.rf M) (by simp only [mF_sF, reduceIte, Nat.reduceEqDiff, Nat.reduceAdd, Nat.reduceMul, Nat.reduceLT, Nat.reduceLeDiff, and_true, true_and, and_false, false_and, and_self, ne_eq, not_true_eq_false, not_false_eq_true, Option.some.injEq, reduceCtorEq]; exact b2') (xf8 (sF (sF (sF M 194 314 (h2 (mA A 338) 0)) 195 314 (h2 (mA A 338) 2)) 196 314 (w4 (mA A 338) 4)) (SaR.rf M))).trans ?_
            refine (sX (sF (sF (sF (sF M 194 314 (h2 (mA A 338) 0)) 195 314 (h2 (mA A 338) 2)) 196 314 (w4 (mA A 338) 4)) 197 314 (w4 (mA A 338) 8)) 198 (u8 (mA A 338 13)) fX11_one (13 : Int32) _ (SaR.rf M) (by simp only [mF_sF, reduceIte, Nat.reduceEqDiff, Nat.reduceAdd, Nat.reduceMul, Nat.reduceLT, Nat.reduceLeDiff, and_true, true_and, and_false, false_and, and_self, ne_eq, not_true_eq_false, not_false_eq_true, Option.some.injEq, reduceCtorEq]; exact b2') (xo13 (sF (sF (sF (sF M 194 314 (h2 (mA A 338) 0)) 195 314 (h2 (mA A 338) 2)) 196 314 (w4 (mA A 338) 4)) 197 314 (w4 (mA A 338) 8)) (SaR.rf M))).trans ?_
            refine (sX (sF (sF (sF (sF (sF M 194 314 (h2 (mA A 338) 0)) 195 314 (h2 (mA A 338) 2)) 196 314 (w4 (mA A 338) 4)) 197 314 (w4 (mA A 338) 8)) 198 314 (u8 (mA A 338 13))) 199 (h2 (mA A 338) 14) fX11_two (14 : Int32) _ (SaR.rf M) (by simp only [mF_sF, reduceIte, Nat.reduceEqDiff, Nat.reduceAdd, Nat.reduceMul, Nat.reduceLT, Nat.reduceLeDiff, and_true, true_and, and_false, false_and, and_self, ne_eq, not_true_eq_false, not_false_eq_true, Option.some.injEq, reduceCtorEq]; exact b2') (xt14 (sF (sF (sF (sF (sF M 194 314 (h2 (mA A 338) 0)) 195 314 (h2 (mA A 338) 2)) 196 314 (w4 (mA A 338) 4)) 197 314 (w4 (mA A 338) 8)) 198 314 (u8 (mA A 338 13))) (SaR.rf M))).trans ?_
            rw [gI_ok (show okA (sF (sF (sF (sF (sF (sF M 194 314 (h2 (mA A 338) 0)) 195 314 (h2 (mA A 338) 2)) 196 314 (w4 (mA A 338) 4)) 197 314 (w4 (mA A 338) 8)) 198 314 (u8 (mA A 338 13))) 199 314 (h2 (mA A 338) 14)) 3 314 from ox), ob_some, show mF (sF (sF (sF (sF (sF (sF M 194 314 (h2 (mA A 338) 0)) 195 314 (h2 (mA A 338) 2)) 196 314 (w4 (mA A 338) 4)) 197 314 (w4 (mA A 338) 8)) 198 314 (u8 (mA A 338 13))) 199 314 (h2 (mA A 338) 14)) 202 314 = nI pl from (by simp only [mF_sF, reduceIte, Nat.reduceEqDiff, Nat.reduceAdd, Nat.reduceMul, Nat.reduceLT, Nat.reduceLeDiff, and_true, true_and, and_false, false_and, and_self, ne_eq, not_true_eq_false, not_false_eq_true, Option.some.injEq, reduceCtorEq]; exact b2'), nI_add, pF_ok (show okA (sF (sF (sF (sF (sF (sF M 194 314 (h2 (mA A 338) 0)) 195 314 (h2 (mA A 338) 2)) 196 314 (w4 (mA A 338) 4)) 197 314 (w4 (mA A 338) 8)) 198 314 (u8 (mA A 338 13))) 199 314 (h2 (mA A 338) 14)) 3 314 from ox), ob_some, gI_ok (show okA (sF (sF (sF (sF (sF (sF (sF M 194 314 (h2 (mA A 338) 0)) 195 314 (h2 (mA A 338) 2)) 196 314 (w4 (mA A 338) 4)) 197 314 (w4 (mA A 338) 8)) 198 314 (u8 (mA A 338 13))) 199 314 (h2 (mA A 338) 14)) 200 314 (nI (pl + he))) 3 314 from ox), ob_some, show mF (sF (sF (sF (sF (sF (sF (sF M 194 314 (h2 (mA A 338) 0)) 195 314 (h2 (mA A 338) 2)) 196 314 (w4 (mA A 338) 4)) 197 314 (w4 (mA A 338) 8)) 198 314 (u8 (mA A 338 13))) 199 314 (h2 (mA A 338) 14)) 200 314 (nI (pl + he))) 203 314 = nI e from by simp only [mF_sF, reduceIte, Nat.reduceEqDiff, Nat.reduceAdd, Nat.reduceMul, Nat.reduceLT, Nat.reduceLeDiff, and_true, true_and, and_false, false_and, and_self, ne_eq, not_true_eq_false, not_false_eq_true, Option.some.injEq, reduceCtorEq]; exact b3, nI_sub q3, pF_ok (show okA (sF (sF (sF (sF (sF (sF (sF M 194 314 (h2 (mA A 338) 0)) 195 314 (h2 (mA A 338) 2)) 196 314 (w4 (mA A 338) 4)) 197 314 (w4 (mA A 338) 8)) 198 314 (u8 (mA A 338 13))) 199 314 (h2 (mA A 338) 14)) 200 314 (nI (pl + he))) 3 314 from ox), ob_some]
            rfl
          obtain ⟨w, w1, w2⟩ := h2_w (mA A 338) 14
          refine Or.inr ⟨he, w, by omega, he60, q3, hra.symm.trans (exA _), hrx.symm.trans ((exM _).trans rN1), ?_, ?_⟩
          · have u : ∀ f, ¬ (1056 ≤ f ∧ f ≤ 1064) → mF (hdA A e he) f 323 = mF A f 323 := fun f hf => by
              unfold hdA
              simp only [mF_sF]
              rw [if_neg (by omega), if_neg (by omega), if_neg (by omega), if_neg (by omega), if_neg (by omega), if_neg (by omega), if_neg (by omega), if_neg (by omega), if_neg (by omega)]
            have ux : ∀ f, ¬ (194 ≤ f ∧ f ≤ 201) → mF (hdX M (mA A 338) pl e he) f 314 = mF M f 314 := fun f hf => by
              unfold hdX
              simp only [mF_sF]
              rw [if_neg (by omega), if_neg (by omega), if_neg (by omega), if_neg (by omega), if_neg (by omega), if_neg (by omega), if_neg (by omega), if_neg (by omega)]
            refine SG.mk ?_ ?_ ?_ ?_ ?_ ?_ ?_ ?_ ?_ ?_ ?_ ?_ ?_ ?_ b1 b4 ?_ b6 ?_ b9 b10 b11 b12
            · rw [u 1054 (by omega), ux 193 (by omega)]; exact b8
            · unfold hdA hdX; simp only [mF_sF, reduceIte, Nat.reduceEqDiff, Nat.reduceAdd, Nat.reduceMul, Nat.reduceLT, Nat.reduceLeDiff, and_true, true_and, and_false, false_and, and_self, ne_eq, not_true_eq_false, not_false_eq_true, Option.some.injEq, reduceCtorEq]
            · unfold hdA hdX; simp only [mF_sF, reduceIte, Nat.reduceEqDiff, Nat.reduceAdd, Nat.reduceMul, Nat.reduceLT, Nat.reduceLeDiff, and_true, true_and, and_false, false_and, and_self, ne_eq, not_true_eq_false, not_false_eq_true, Option.some.injEq, reduceCtorEq]
            · unfold hdA hdX; simp only [mF_sF, reduceIte, Nat.reduceEqDiff, Nat.reduceAdd, Nat.reduceMul, Nat.reduceLT, Nat.reduceLeDiff, and_true, true_and, and_false, false_and, and_self, ne_eq, not_true_eq_false, not_false_eq_true, Option.some.injEq, reduceCtorEq]
            · unfold hdA hdX; simp only [mF_sF, reduceIte, Nat.reduceEqDiff, Nat.reduceAdd, Nat.reduceMul, Nat.reduceLT, Nat.reduceLeDiff, and_true, true_and, and_false, false_and, and_self, ne_eq, not_true_eq_false, not_false_eq_true, Option.some.injEq, reduceCtorEq]
            · unfold hdA hdX; simp only [mF_sF, reduceIte, Nat.reduceEqDiff, Nat.reduceAdd, Nat.reduceMul, Nat.reduceLT, Nat.reduceLeDiff, and_true, true_and, and_false, false_and, and_self, ne_eq, not_true_eq_false, not_false_eq_true, Option.some.injEq, reduceCtorEq]; exact (u8_31 _).symm
            · unfold hdA; simp only [mF_sF, reduceIte, Nat.reduceEqDiff, Nat.reduceAdd, Nat.reduceMul, Nat.reduceLT, Nat.reduceLeDiff, and_true, true_and, and_false, false_and, and_self, ne_eq, not_true_eq_false, not_false_eq_true, Option.some.injEq, reduceCtorEq]; exact w2
            · unfold hdX; simp only [mF_sF, reduceIte, Nat.reduceEqDiff, Nat.reduceAdd, Nat.reduceMul, Nat.reduceLT, Nat.reduceLeDiff, and_true, true_and, and_false, false_and, and_self, ne_eq, not_true_eq_false, not_false_eq_true, Option.some.injEq, reduceCtorEq]; exact w2
            · omega
            · unfold hdA; simp only [mF_sF, reduceIte, Nat.reduceEqDiff, Nat.reduceAdd, Nat.reduceMul, Nat.reduceLT, Nat.reduceLeDiff, and_true, true_and, and_false, false_and, and_self, ne_eq, not_true_eq_false, not_false_eq_true, Option.some.injEq, reduceCtorEq]
            · unfold hdX; simp only [mF_sF, reduceIte, Nat.reduceEqDiff, Nat.reduceAdd, Nat.reduceMul, Nat.reduceLT, Nat.reduceLeDiff, and_true, true_and, and_false, false_and, and_self, ne_eq, not_true_eq_false, not_false_eq_true, Option.some.injEq, reduceCtorEq]
            · unfold hdA; simp only [mF_sF, reduceIte, Nat.reduceEqDiff, Nat.reduceAdd, Nat.reduceMul, Nat.reduceLT, Nat.reduceLeDiff, and_true, true_and, and_false, false_and, and_self, ne_eq, not_true_eq_false, not_false_eq_true, Option.some.injEq, reduceCtorEq]
            · unfold hdX; simp only [mF_sF, reduceIte, Nat.reduceEqDiff, Nat.reduceAdd, Nat.reduceMul, Nat.reduceLT, Nat.reduceLeDiff, and_true, true_and, and_false, false_and, and_self, ne_eq, not_true_eq_false, not_false_eq_true, Option.some.injEq, reduceCtorEq]
            · omega
            · show pl + he + (e - he) ≤ sLen (mS M) bd
              omega
            · intro j hj
              show mA A 338 (he + j) = mA M bd (pl + he + j)
              rw [b7 (he + j) (by omega), Nat.add_assoc]
          · refine HS.mk hR hBA hW hBM b1 ?_ ?_ ?_ b4 ?_ b6 he60 ?_
            · unfold hdX
              simp only [mF_sF, reduceIte, Nat.reduceEqDiff, Nat.reduceAdd, Nat.reduceMul, Nat.reduceLT, Nat.reduceLeDiff, and_true, true_and, and_false, false_and, and_self, ne_eq, not_true_eq_false, not_false_eq_true, Option.some.injEq, reduceCtorEq]
              exact b2'
            · unfold hdA; simp only [mF_sF, reduceIte, Nat.reduceEqDiff, Nat.reduceAdd, Nat.reduceMul, Nat.reduceLT, Nat.reduceLeDiff, and_true, true_and, and_false, false_and, and_self, ne_eq, not_true_eq_false, not_false_eq_true, Option.some.injEq, reduceCtorEq]
            · unfold hdX; simp only [mF_sF, reduceIte, Nat.reduceEqDiff, Nat.reduceAdd, Nat.reduceMul, Nat.reduceLT, Nat.reduceLeDiff, and_true, true_and, and_false, false_and, and_self, ne_eq, not_true_eq_false, not_false_eq_true, Option.some.injEq, reduceCtorEq]
            · show pl + he ≤ sLen (mS M) bd
              omega
            · intro j hj
              show mA A 338 j = mA M bd (pl + j)
              exact b7 j (by omega)
        · rw [if_neg (show ¬ (nI (65535 - S) : Int32) = 0 from fun z => q4 (by have := (nI_eq (a := 65535 - S) (b := 0) (by omega) (by decide)).mp z; omega))] at hra
          rw [if_neg (show ¬ (nI S : Int32) = (65535 : Int32) from fun z => q4 ((nI_eq (b := 65535) (by omega) (by decide)).mp z)), rN0] at hrx
          exact Or.inl ⟨_, hra.symm, hrx.symm, FF.s _ rfl⟩
      · rw [if_pos (nI_lt (by omega) (by omega))] at hra
        rw [if_neg (nI_ge (by omega) (by omega)), rN0] at hrx
        exact Or.inl ⟨_, hra.symm, hrx.symm, FF.s _ rfl⟩
  · rw [if_neg (show ¬ (20 : Int32) ≤ nI e from nI_ge (show e < 20 by omega) (by decide))] at hra
    rw [if_pos (L20 e (by omega)), rN0] at hrx
    exact Or.inl ⟨A, hra.symm, hrx.symm, FF.rf⟩
end TcpHead
