/-! ===== part 92: an IP packet comes in ===== -/
/-- the body of a whole packet, in both -/
def BodyR (e bd pl : Nat) (A M : Mm) : Prop := (mG M 192 314) = some bd ∧ (mF M 202 314) = nI pl ∧ (mF M 203 314) = nI e ∧ okA M 100 bd ∧ pl + e ≤ sLen (mS M) bd ∧ sLen (mS M) bd < 2 ^ 30 ∧ (∀ j, j < e → mA A 338 j = mA M bd (pl + j)) ∧ (mF A 1054 323) = (mF M 193 314) ∧ bd ≠ 308 ∧ sTy (mS M) (bd - 1) ≠ 6 ∧ sTy (mS M) (bd - 1) ≠ 1 ∧ sTy (mS M) (bd - 1) ≠ 0 ∧ e ≤ 4096
def IpR (fu KN KS t T : Nat) (A M : Mm) (ra : Option Mm) (rx : Option (Int32 × Mm)) : Prop :=
  (∃ A' M', ra = some A' ∧ rx = some (0, M') ∧ Kept KN KS t T A M A' M') ∨
  (∃ A' M' e bd pl, ra = (fX16_taken fu 323 (mF M' 204 314) (nI e) A').bind (fun M5 => some M5) ∧ rx = some (1, M') ∧ (∃ x, (mF M' 204 314) = u8 x) ∧ Kept KN KS t T A M A' M' ∧ BodyR e bd pl A' M')
theorem b_16383 {i : Nat} (h : i < 32) : bt 16383 i = decide (i < 14) := by
  have : ∀ i, i < 32 → bt 16383 i = decide (i < 14) := by decide +kernel
  exact this i h
theorem b_8191 {i : Nat} (h : i < 32) : bt 8191 i = decide (i < 13) := by
  have : ∀ i, i < 32 → bt 8191 i = decide (i < 13) := by decide +kernel
  exact this i h
theorem msk13 : mskOf 13 = 8192 := by decide
theorem piece_0 (v : Int32) : (v &&& 16383) = 0 ↔ ((v &&& 8192) = 0 ∧ (v &&& 8191) = 0) := by
  rw [← msk13, bit_tst]
  constructor
  · intro h
    have hb : ∀ i, i < 14 → bt v i = false := fun i hi => by
      have := congrArg (fun z => bt z i) h
      simp only [b_and, b_0, b_16383 (show i < 32 by omega)] at this
      simpa [hi] using this
    refine ⟨hb 13 (by omega), b_ext (fun i hi => ?_)⟩
    rw [b_and, b_8191 hi, b_0]
    by_cases c : i < 13
    · rw [hb i (by omega)]; rfl
    · simp [c]
  · rintro ⟨h1, h2⟩
    refine b_ext (fun i hi => ?_)
    rw [b_and, b_16383 hi, b_0]
    by_cases c : i < 13
    · have := congrArg (fun z => bt z i) h2
      simp only [b_and, b_0, b_8191 hi] at this
      have h3 : bt v i = false := by simpa [c] using this
      rw [h3]; rfl
    · by_cases c2 : i = 13
      · rw [c2]
        have h1' : bt v 13 = false := h1
        rw [h1']; rfl
      · have : ¬ i < 14 := by omega
        simp [this]
theorem piece_m (v : Int32) : ((v &&& 16383) &&& 8192) = 0 ↔ (v &&& 8192) = 0 := by
  rw [← msk13, bit_tst, bit_tst, b_and, b_16383 (by decide)]
  simp
theorem piece_o (v : Int32) : (v &&& 16383) &&& 8191 = v &&& 8191 := by
  refine b_ext (fun i hi => ?_)
  rw [b_and, b_and, b_and, b_16383 hi, b_8191 hi]
  by_cases c : i < 13
  · have : i < 14 := by omega
    simp [c, this]
  · simp [c]
theorem u8_15 (v : Int32) : u8 v &&& 15 = v &&& 15 := by
  have b15 : ∀ i, i < 32 → bt 15 i = decide (i < 4) := by decide +kernel
  unfold u8
  refine b_ext (fun i hi => ?_)
  rw [b_and, b_and, b_and, b_255, b15 i hi]
  by_cases c : i < 4
  · have : i < 8 := by omega
    simp [c, this]
  · simp [c]
theorem ver4 (v : Int32) : (u8 v >>> ((4 : Int32) &&& 31)) = 4 ↔ (v &&& 240) = 64 := by
  have e1 : v &&& 240 = u8 v &&& 240 := by
    have b240 : ∀ i, i < 32 → bt 240 i = (decide (4 ≤ i) && decide (i < 8)) := by decide +kernel
    unfold u8
    refine b_ext (fun i hi => ?_)
    rw [b_and, b_and, b_and, b_255, b240 i hi]
    by_cases c : i < 8
    · simp [c]
    · simp [c]
  rw [e1]
  have e2 : u8 v = nI (bN v) := u8_nI v
  rw [e2]
  have h := bN_lt v
  have : ∀ n, n < 256 → ((nI n >>> ((4 : Int32) &&& 31)) = 4 ↔ (nI n &&& 240) = 64) := by decide +kernel
  exact this _ h
section IpIn
variable {A M : Mm}
theorem TrR_fr2 {A' M' : Mm} {n tr : Nat} (hW : XW M) (h2 : sTy (mS M) (tr - 1) ≠ 2) (f1 : FD A A') (f2 : FM PDx GDx BDx QDx M M') (h : TrR n tr A M) : TrR n tr A' M' ∧ sTy (mS M') (tr - 1) ≠ 2 := by
  obtain ⟨a1, a2, a3, a4, a5, -⟩ := f1
  have f2' := f2
  obtain ⟨b1, b2, b3, b4, b5, b6⟩ := f2'
  obtain ⟨t1, t2, t3, t4, t5, t6, t7, t8⟩ := h
  have hlt := t2.2.1
  have e1 := (b2 (tr - 1) (by omega)).1
  refine ⟨⟨(a4 _ _ (by unfold PD; omega)).trans t1, f2.ok t2, by rw [(b2 tr hlt).2]; exact t3, by rw [(b2 tr hlt).2]; exact t4, fun j hj => ?_, t6, by rw [e1]; exact t7, t8⟩, by rw [e1]; exact h2⟩
  rw [a5 324 (by unfold QD; omega), b6 tr hlt]
  · exact t5 j hj
  · unfold QDx
    rintro (q | ⟨-, q⟩ | q)
    · exact h2 q
    · exact absurd (t2.2.2.symm.trans q) (by decide)
    · subst q
      exact absurd (t2.2.2.symm.trans (xw_ok305 hW).2.2) (by decide)
theorem sp_gather (fu : Nat) (hf : 4200 ≤ fu) {KN KS t T n nw tr ln o at' sz : Nat} {s τ : Nat → Nat} (hJ : JL0 KN KS t T A M) (ht : t + 1 ≤ 1000) (hT2 : T < 2 ^ 30) (hD : JDa n nw s τ A M) (hN : JN A M) (hBA : Bd RM TM A) (hBM : Bd RX TX M) (hT : TrR ln tr A M) (h2' : sTy (mS M) (tr - 1) ≠ 2) (hb : (mG M 192 314) = some tr) (hpl : (mF M 202 314) = nI at') (hsz : (mF M 203 314) = nI sz) (hat : at' + sz ≤ ln) (ho : o + sz ≤ 4096) {mo : Int32} (hmo : mo = 0 ∨ mo = 1) (h1 : mo = 1 → 1 ≤ sz) :
    ∃ d, FragR fu KN KS (t + 1) T d (mF M 193 314) (mF M 204 314) A M (fX16_fragment fu 323 (mF M 193 314) (mF M 204 314) (nI o) (nI at') (nI sz) mo A) (fX3_gather_L47 fu 314 (h2 (mA A 324) 18) mo (nI o) M) := by
  have hR := hJ.1
  have hW := hJ.2.1
  have m18 : fX16_trayHalf fu 323 (18 : Int32) A = some (h2 (mA A 324) 18, A) := m_trayHalf hR fu (i := 18) (by decide)
  have hle : nI o + nI sz ≤ (4096 : Int32) := by rw [nI_add]; exact nI_le (b := 4096) ho (by decide)
  unfold fX16_fragment
  rw [rc_ok (rw_ok323 hR), ob_some, m18, b2_some, gather_gT fu _ _ _ hW, hsz, if_pos hle]
  rcases sp_find fu hf hJ ht hT2 hD hN hBA hBM (h2 (mA A 324) 18) (nI o) (nI at') (nI sz) mo with ⟨A1, M1, n1, s1, τ1, i, d, c1, c2, c3, c4, c5, c6, c7, c8, c9, c10, c11, c12, c13⟩ | ⟨c1, c2⟩
  · refine ⟨d, ?_⟩
    rw [c1, c2, b2_some]
    obtain ⟨hT1, h21⟩ := TrR_fr2 hW h2' c10 c11 hT
    have e1 := c12 193 (by decide) (by decide)
    have e2 := c12 204 (by decide) (by decide)
    have hOd : sTy (mS M1) d = 2 := by
      obtain ⟨_, _, _, _, _, _, _, _, _, _, r3, _⟩ := c4.2.2.2.1
      exact (rowN_at r3 c6).2.2.2
    have := sp_dgTake fu hf c4 c5 c3 c6 c7 c8 c9 hT1 (fun e => h21 (by rw [e]; exact hOd)) (c13.trans hb) ((c12 202 (by decide) (by decide)).trans hpl) ((c12 203 (by decide) (by decide)).trans hsz) hat ho hmo h1 (mF M 193 314) (mF M 204 314)
    exact FragR_pre c10 c11 e1 e2 this
  · refine ⟨0, Or.inl ⟨A, M, c1, ?_, JL0_mono ht hJ, ⟨n, nw, s, τ, hD⟩, hN, hBA, hBM, FD.rf, FM.rf⟩⟩
    rw [c2, b2_some]
    unfold gT
    rw [if_pos (by decide), rN0]
/-- the class's notes on a packet -/
def ntM (M : Mm) (tr : Nat) (x p pl sz : Int32) : Mm := sF (sF (sG (sF (sF M 193 314 x) 204 314 p) 192 314 (some tr)) 202 314 pl) 203 314 sz
theorem ntM_F {tr : Nat} {x p pl sz : Int32} {f a : Nat} (h : ¬ (193 ≤ f ∧ f ≤ 204 ∧ a = 314)) : mF (ntM M tr x p pl sz) f a = mF M f a := by
  unfold ntM
  rw [mF_sF, if_neg (by omega), mF_sF, if_neg (by omega), mF_sG, mF_sF, if_neg (by omega), mF_sF, if_neg (by omega)]
theorem ntM_G {tr : Nat} {x p pl sz : Int32} {f a : Nat} (h : ¬ (f = 192 ∧ a = 314)) : mG (ntM M tr x p pl sz) f a = mG M f a := by
  show mG (sG (sF (sF M 193 314 x) 204 314 p) 192 314 (some tr)) f a = _
  rw [mG_sG, if_neg h]
  rfl
/-- notes of the intake alone are other -/
theorem Kept_nt {KN KS t u T : Nat} {M' : Mm} (hJ : JL0 KN KS t T A M) (hu : t + u ≤ 1000) (hD : JD A M) (hN : JN A M) (hBA : Bd RM TM A) (hBM : Bd RX TX M') (hF : ∀ f a, ¬ (193 ≤ f ∧ f ≤ 204 ∧ a = 314) → mF M' f a = mF M f a) (hG : ∀ f a, ¬ (f = 192 ∧ a = 314) → mG M' f a = mG M f a) (hA : mA M' = mA M) (hB : mB M' = mB M) (hS : mS M' = mS M) : Kept KN KS (t + u) T A M A M' := by
  have hJ0 := hJ
  obtain ⟨hR, hW, hS', hX, -⟩ := hJ0
  obtain ⟨_, _, _, _, _, _, _, _, _, _, _, _, _, _, _, _, _, k5⟩ := hX
  have hX := hJ.2.2.2.1
  have hG' : ∀ f a, ¬ varG f → mG M' f a = mG M f a := fun f a h => hG f a (fun e => h (Or.inl e.1))
  refine ⟨JL0_keep hJ hu hR (XW_of2 k5 (by rw [hS]; exact Nat.le_refl _) (fun a _ => by rw [hS]; exact ⟨rfl, rfl⟩) (fun f a _ h => hG' f a h) hW) (XS_of2 hS hG' hS') (XRR_same hS hB hX) (fun _ _ _ => rfl) (fun O e => ⟨O, e, Nat.le_refl _, by omega⟩) (fun _ _ => rfl) (fun f h1 h2 => hF _ _ (by omega)) (fun f h1 h2 => hF _ _ (by omega)) (fun p hp => ⟨fun f h1 h2 => hF _ _ (by omega), by rw [hA]⟩) (fun a _ _ => by rw [hA]) (by rw [hB]) (by rw [hB]), ?_, ?_, hBA, hBM, FD.rf, ⟨by rw [hS]; exact Nat.le_refl _, fun a _ => by rw [hS]; exact ⟨rfl, rfl⟩, fun f a _ h => hG f a (fun e => h e.1), fun a _ _ => by rw [hB], fun f a _ h => hF f a (fun e => h (by unfold PDx; omega)), fun a _ _ => by rw [hA]⟩⟩
  · obtain ⟨n, nw, s, τ, hD⟩ := hD
    exact ⟨n, nw, s, τ, JDa_congr (A := A) (M := M) (fun _ _ _ _ => rfl) rfl (Int32.le_refl _) (fun _ _ _ => rfl) (hF _ _ (by omega)) (by rw [hB]) (fun i d _ _ => ⟨fun f h1 h2 => hF _ _ (by omega), by rw [hA], by rw [hA]⟩) hD⟩
  · intro i hi
    rw [hA]
    exact hN i hi
end IpIn
