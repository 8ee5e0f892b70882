/-! ===== part 97w: a segment's bytes come in, in both ===== -/
def AQ (A M : Mm) (k c hd dl da dx bd : Nat) (sq rd : Int32) : Prop := (RW A) ∧ (XW M) ∧ (CnO M c) ∧ (∀ j, isB (mA M bd j)) ∧ (hd ≤ 4096) ∧ ((mF A 1063 323) = nI dl) ∧ ((mF A 1058 323) = sq) ∧ ((mF A 803 (342 + 4 * k)) = rd) ∧ ((mF A 1062 323) = nI da) ∧ ((mF M 201 314) = nI dl) ∧ ((mF M 196 314) = sq) ∧ ((mF M 1 (c + 2)) = rd + nI hd) ∧ ((mF M 200 314) = nI dx) ∧ ((mG M 192 314) = some bd) ∧ (okA M 100 bd) ∧ (dx + dl ≤ sLen (mS M) bd) ∧ (sLen (mS M) bd < 2 ^ 30) ∧ (da + dl ≤ 4096) ∧ (∀ i, i < dl → mA A 338 (da + i) = mA M bd (dx + i)) ∧ (bd ≠ c + 3) ∧ (RT rd hd (mA A (345 + 4 * k)) (mA A (344 + 4 * k)) (mA M (c + 4)) (mA M (c + 3))) ∧ True
theorem AQ.rw' {A M : Mm} {k c hd dl da dx bd : Nat} {sq rd : Int32} (h : AQ A M k c hd dl da dx bd sq rd) : RW A := h.1
theorem AQ.xw {A M : Mm} {k c hd dl da dx bd : Nat} {sq rd : Int32} (h : AQ A M k c hd dl da dx bd sq rd) : XW M := h.2.1
theorem AQ.cn {A M : Mm} {k c hd dl da dx bd : Nat} {sq rd : Int32} (h : AQ A M k c hd dl da dx bd sq rd) : CnO M c := h.2.2.1
theorem AQ.hB {A M : Mm} {k c hd dl da dx bd : Nat} {sq rd : Int32} (h : AQ A M k c hd dl da dx bd sq rd) : ∀ j, isB (mA M bd j) := h.2.2.2.1
theorem AQ.hd1 {A M : Mm} {k c hd dl da dx bd : Nat} {sq rd : Int32} (h : AQ A M k c hd dl da dx bd sq rd) : hd ≤ 4096 := h.2.2.2.2.1
theorem AQ.a1 {A M : Mm} {k c hd dl da dx bd : Nat} {sq rd : Int32} (h : AQ A M k c hd dl da dx bd sq rd) : (mF A 1063 323) = nI dl := h.2.2.2.2.2.1
theorem AQ.a2 {A M : Mm} {k c hd dl da dx bd : Nat} {sq rd : Int32} (h : AQ A M k c hd dl da dx bd sq rd) : (mF A 1058 323) = sq := h.2.2.2.2.2.2.1
theorem AQ.a3 {A M : Mm} {k c hd dl da dx bd : Nat} {sq rd : Int32} (h : AQ A M k c hd dl da dx bd sq rd) : (mF A 803 (342 + 4 * k)) = rd := h.2.2.2.2.2.2.2.1
theorem AQ.a4 {A M : Mm} {k c hd dl da dx bd : Nat} {sq rd : Int32} (h : AQ A M k c hd dl da dx bd sq rd) : (mF A 1062 323) = nI da := h.2.2.2.2.2.2.2.2.1
theorem AQ.x1 {A M : Mm} {k c hd dl da dx bd : Nat} {sq rd : Int32} (h : AQ A M k c hd dl da dx bd sq rd) : (mF M 201 314) = nI dl := h.2.2.2.2.2.2.2.2.2.1
theorem AQ.x2 {A M : Mm} {k c hd dl da dx bd : Nat} {sq rd : Int32} (h : AQ A M k c hd dl da dx bd sq rd) : (mF M 196 314) = sq := h.2.2.2.2.2.2.2.2.2.2.1
theorem AQ.x3 {A M : Mm} {k c hd dl da dx bd : Nat} {sq rd : Int32} (h : AQ A M k c hd dl da dx bd sq rd) : (mF M 1 (c + 2)) = rd + nI hd := h.2.2.2.2.2.2.2.2.2.2.2.1
theorem AQ.x4 {A M : Mm} {k c hd dl da dx bd : Nat} {sq rd : Int32} (h : AQ A M k c hd dl da dx bd sq rd) : (mF M 200 314) = nI dx := h.2.2.2.2.2.2.2.2.2.2.2.2.1
theorem AQ.x5 {A M : Mm} {k c hd dl da dx bd : Nat} {sq rd : Int32} (h : AQ A M k c hd dl da dx bd sq rd) : (mG M 192 314) = some bd := h.2.2.2.2.2.2.2.2.2.2.2.2.2.1
theorem AQ.x6 {A M : Mm} {k c hd dl da dx bd : Nat} {sq rd : Int32} (h : AQ A M k c hd dl da dx bd sq rd) : okA M 100 bd := h.2.2.2.2.2.2.2.2.2.2.2.2.2.2.1
theorem AQ.x7 {A M : Mm} {k c hd dl da dx bd : Nat} {sq rd : Int32} (h : AQ A M k c hd dl da dx bd sq rd) : dx + dl ≤ sLen (mS M) bd := h.2.2.2.2.2.2.2.2.2.2.2.2.2.2.2.1
theorem AQ.x8 {A M : Mm} {k c hd dl da dx bd : Nat} {sq rd : Int32} (h : AQ A M k c hd dl da dx bd sq rd) : sLen (mS M) bd < 2 ^ 30 := h.2.2.2.2.2.2.2.2.2.2.2.2.2.2.2.2.1
theorem AQ.da1 {A M : Mm} {k c hd dl da dx bd : Nat} {sq rd : Int32} (h : AQ A M k c hd dl da dx bd sq rd) : da + dl ≤ 4096 := h.2.2.2.2.2.2.2.2.2.2.2.2.2.2.2.2.2.1
theorem AQ.by' {A M : Mm} {k c hd dl da dx bd : Nat} {sq rd : Int32} (h : AQ A M k c hd dl da dx bd sq rd) : ∀ i, i < dl → mA A 338 (da + i) = mA M bd (dx + i) := h.2.2.2.2.2.2.2.2.2.2.2.2.2.2.2.2.2.2.1
theorem AQ.n3 {A M : Mm} {k c hd dl da dx bd : Nat} {sq rd : Int32} (h : AQ A M k c hd dl da dx bd sq rd) : bd ≠ c + 3 := h.2.2.2.2.2.2.2.2.2.2.2.2.2.2.2.2.2.2.2.1
theorem AQ.rt {A M : Mm} {k c hd dl da dx bd : Nat} {sq rd : Int32} (h : AQ A M k c hd dl da dx bd sq rd) : RT rd hd (mA A (345 + 4 * k)) (mA A (344 + 4 * k)) (mA M (c + 4)) (mA M (c + 3)) := h.2.2.2.2.2.2.2.2.2.2.2.2.2.2.2.2.2.2.2.2.1
theorem AQ.mk {A M : Mm} {k c hd dl da dx bd : Nat} {sq rd : Int32} (rw'_ : RW A) (xw_ : XW M) (cn_ : CnO M c) (hB_ : ∀ j, isB (mA M bd j)) (hd1_ : hd ≤ 4096) (a1_ : (mF A 1063 323) = nI dl) (a2_ : (mF A 1058 323) = sq) (a3_ : (mF A 803 (342 + 4 * k)) = rd) (a4_ : (mF A 1062 323) = nI da) (x1_ : (mF M 201 314) = nI dl) (x2_ : (mF M 196 314) = sq) (x3_ : (mF M 1 (c + 2)) = rd + nI hd) (x4_ : (mF M 200 314) = nI dx) (x5_ : (mG M 192 314) = some bd) (x6_ : okA M 100 bd) (x7_ : dx + dl ≤ sLen (mS M) bd) (x8_ : sLen (mS M) bd < 2 ^ 30) (da1_ : da + dl ≤ 4096) (by'_ : ∀ i, i < dl → mA A 338 (da + i) = mA M bd (dx + i)) (n3_ : bd ≠ c + 3) (rt_ : RT rd hd (mA A (345 + 4 * k)) (mA A (344 + 4 * k)) (mA M (c + 4)) (mA M (c + 3))) : AQ A M k c hd dl da dx bd sq rd := ⟨rw'_, xw_, cn_, hB_, hd1_, a1_, a2_, a3_, a4_, x1_, x2_, x3_, x4_, x5_, x6_, x7_, x8_, da1_, by'_, n3_, rt_, trivial⟩
section Come
variable {A A' M M' : Mm}
theorem AQ_ar {k c hd dl da dx bd : Nat} {sq rd : Int32} (hk : k < 16) (h : AQ A M k c hd dl da dx bd sq rd) (fA : ArA k A A') (fM : ArM c M M') (hrt : RT rd hd (mA A' (345 + 4 * k)) (mA A' (344 + 4 * k)) (mA M' (c + 4)) (mA M' (c + 3))) : AQ A' M' k c hd dl da dx bd sq rd := by
  obtain ⟨s1, s2, s3, s4, s5⟩ := fA
  obtain ⟨t1, t2, t3, t4, t5⟩ := fM
  have ne4 := ok_ne h.x6 h.cn.2.2.2.2.2.2.2.2.2.2.2.1 (by decide)
  have eb : mA M' bd = mA M bd := t5 bd h.n3 ne4
  have e3 : mA A' 338 = mA A 338 := s5 338 (by omega) (by omega)
  refine AQ.mk ?_ ?_ ?_ (by rw [eb]; exact h.hB) h.hd1 (by rw [s4]; exact h.a1) (by rw [s4]; exact h.a2) (by rw [s4]; exact h.a3) (by rw [s4]; exact h.a4) (by rw [t4]; exact h.x1) (by rw [t4]; exact h.x2) (by rw [t4]; exact h.x3) (by rw [t4]; exact h.x4) (by rw [t2]; exact h.x5) (by unfold okA; rw [t1]; exact h.x6) (by rw [t1]; exact h.x7) (by rw [t1]; exact h.x8) h.da1 (by rw [e3, eb]; exact h.by') h.n3 hrt
  · rw [show RW A' = RW A from by unfold RW okA; rw [s1, s2, s3]]; exact h.rw'
  · rw [show XW M' = XW M from by unfold XW okA; rw [t1, t2]]; exact h.xw
  · rw [show CnO M' c = CnO M c from by unfold CnO okA; rw [t1, t2]]; exact h.cn
theorem arr_loop (fu : Nat) {k c hd dl da dx bd : Nat} {sq rd : Int32} (hk : k < 16) : ∀ (n : Nat) (A M : Mm) (i m m2 : Nat), i + n = dl → n ≤ m → n ≤ m2 → AQ A M k c hd dl da dx bd sq rd →
    ∃ A' M', fX16_arrived_L41 fu (m + 1) 323 (some (342 + 4 * k)) (nI (4096 - hd)) (rd + nI hd) (nI i) A = fX16_arrived_L131 fu fu 323 (some (342 + 4 * k)) (nI (4096 - hd)) (rd + nI hd) A' ∧ fX0_putAhead_L7 fu (m2 + 1) (c + 2) (some 314) (nI (4096 - hd)) (nI i) M = some M' ∧ ArA k A A' ∧ ArM c M M' ∧ AQ A' M' k c hd dl da dx bd sq rd ∧ (n = 0 → A' = A) := by
  intro n
  induction n with
  | zero =>
    intro A M i m m2 hi hm hm2 h
    have e : i = dl := by omega
    have := h.da1
    refine ⟨A, M, ?_, ?_, ArA.rf, ArM.rf, h, fun _ => rfl⟩
    · rw [fX16_arrived_L41, gI_ok (rw_ok323 h.rw'), ob_some, h.a1, e, if_pos (nI_le (Nat.le_refl _) (by omega))]
    · rw [fX0_putAhead_L7, gI_ok (xw_ok314 h.xw), ob_some, h.x1, e, if_pos (nI_le (Nat.le_refl _) (by omega))]
  | succ n ih =>
    intro A M i m m2 hi hm hm2 h
    obtain ⟨A1, M1, r1, r2, r3, r4, r5⟩ := arr_step fu m m2 h.rw' h.xw hk h.cn h.hB h.hd1 h.a1 h.a2 h.a3 h.a4 h.x1 h.x2 h.x3 h.x4 h.x5 h.x6 h.x7 h.x8 h.da1 (show i < dl by omega) (h.by' i (by omega)) h.n3 h.rt
    obtain ⟨A', M', s1, s2, s3, s4, s5, -⟩ := ih A1 M1 (i + 1) (m - 1) (m2 - 1) (by omega) (by omega) (by omega) (AQ_ar hk h r3 r4 r5)
    rw [show m - 1 + 1 = m by omega] at s1
    rw [show m2 - 1 + 1 = m2 by omega] at s2
    exact ⟨A', M', r1.trans s1, r2.trans s2, r3.tr s3, r4.tr s4, s5, fun e => absurd e (Nat.succ_ne_zero n)⟩
/-- frames of going over what is there -/
def GoM (c : Nat) (M M' : Mm) : Prop := mS M' = mS M ∧ mG M' = mG M ∧ mB M' = mB M ∧ (∀ f a, ¬ (f = 1 ∧ a = c + 2) → mF M' f a = mF M f a) ∧ ∀ a, a ≠ c + 4 → mA M' a = mA M a
theorem go_loop (fu : Nat) {k c : Nat} {rd w f : Int32} (hk : k < 16) : ∀ (n : Nat) (A M : Mm) (hd i m m2 : Nat), hd + n = 4096 → i + n ≤ 4096 → n ≤ m → n ≤ m2 → RW A → CnO M c → (mF A 803 (342 + 4 * k)) = rd → (mF A 804 (342 + 4 * k)) = rd + nI hd → (mF M 1 (c + 2)) = rd + nI hd → RT rd hd (mA A (345 + 4 * k)) (mA A (344 + 4 * k)) (mA M (c + 4)) (mA M (c + 3)) →
    ∃ A' M' hd', fX16_arrived_L131 fu (m + 1) 323 (some (342 + 4 * k)) w f A = fX16_arrived_L176 fu 323 (some (342 + 4 * k)) w f A' ∧ fX0_goOverWhatIsThere_L2 fu (m2 + 1) (c + 2) (nI i) M = some M' ∧ hd ≤ hd' ∧ hd' ≤ 4096 ∧ FF (fun f => f = 804) (342 + 4 * k) A A' ∧ GoM c M M' ∧ (mF A' 804 (342 + 4 * k)) = rd + nI hd' ∧ (mF M' 1 (c + 2)) = rd + nI hd' ∧ RT rd hd' (mA A' (345 + 4 * k)) (mA A' (344 + 4 * k)) (mA M' (c + 4)) (mA M' (c + 3)) ∧ (hd' < 4096 → mA A' (345 + 4 * k) hd' = 0) ∧ (mA A (345 + 4 * k) hd = 0 → hd' = hd) := by
  intro n
  induction n with
  | zero =>
    intro A M hd i m m2 h1 h2 h3 h4 hR hC hr hn hx hrt
    have e : hd = 4096 := by omega
    subst e
    have hA := rw_cnO hR k hk
    obtain ⟨c1, c2, c3, c4, c5, c6, c7, c8, c9, c10, c11, c12, c13, c14⟩ := hC
    refine ⟨A, M, 4096, ?_, ?_, Nat.le_refl _, Nat.le_refl _, FF.rf, ⟨rfl, rfl, rfl, fun _ _ _ => rfl, fun _ _ => rfl⟩, hn, hx, hrt, fun e => absurd e (by decide), fun _ => rfl⟩
    · rw [fX16_arrived_L131, gI_ok hA, ob_some, gI_ok hA, ob_some, hn, hr, add_sub_l, if_pos (show (4096 : Int32) ≤ nI 4096 from nI_le (a := 4096) (Nat.le_refl _) (by decide))]
    · rw [fX0_goOverWhatIsThere_L2]
      by_cases q : 4096 ≤ i
      · rw [if_pos (show (4096 : Int32) ≤ nI i from nI_le (a := 4096) q (by omega))]
      · rw [if_neg (show ¬ (4096 : Int32) ≤ nI i from nI_ge (b := 4096) (by omega) (by decide)), gI_ok c7, ob_some, hx, and4095, ob_some]
        have hs := slot_lt (rd + nI 4096)
        have es : slot (rd + nI 4096) = slot (rd + nI 0) := by rw [slot_add, slot_add]; omega
        have hb := ((hrt.2 0 (by decide)).1 (by decide)).2
        rw [← es] at hb
        rw [shr5 (by omega), gR_ok c7, ob_some, c9, gA_ok c12 (by rw [c13]; omega) (by omega), ob_some, msk_eq (by omega), if_pos ((bit_tst _ _).mpr hb)]
  | succ n ih =>
    intro A M hd i m m2 h1 h2 h3 h4 hR hC hr hn hx hrt
    have hA := rw_cnO hR k hk
    have hC' := hC
    obtain ⟨c1, c2, c3, c4, c5, c6, c7, c8, c9, c10, c11, c12, c13, c14⟩ := hC'
    have hs := slot_lt (rd + nI hd)
    have hth := (hrt.2 hd (by omega)).2.1 (Nat.le_refl _)
    have i4 : ¬ (4096 : Int32) ≤ nI i := nI_ge (b := 4096) (by omega) (by decide)
    have h4' : ¬ (4096 : Int32) ≤ nI hd := nI_ge (b := 4096) (by omega) (by decide)
    have gT : gA A 102 (some (345 + 4 * k)) (nI hd) = some (mA A (345 + 4 * k) hd) := gA_ok (rw_cnT hR k hk) (by rw [rw_cnTl hR k hk]; omega) (by omega)
    have gX : gA M 101 (some (c + 4)) (nI (slot (rd + nI hd) / 32)) = some (mA M (c + 4) (slot (rd + nI hd) / 32)) := gA_ok c12 (by rw [c13]; omega) (by omega)
    have e5 : nI (slot (rd + nI hd)) >>> ((5 : Int32) &&& 31) = nI (slot (rd + nI hd) / 32) := shr5 (by omega)
    have emk := msk_eq (show slot (rd + nI hd) < 2 ^ 31 by omega)
    by_cases q : bitOf (mA M (c + 4)) (slot (rd + nI hd)) = true
    · rw [q, if_pos rfl] at hth
      have pX : pA M 101 (some (c + 4)) (nI (slot (rd + nI hd) / 32)) (mA M (c + 4) (slot (rd + nI hd) / 32) &&& (mskOf (slot (rd + nI hd)) ^^^ (-1 : Int32))) = some (wA M (c + 4) (fun i => if i = slot (rd + nI hd) / 32 then mA M (c + 4) (slot (rd + nI hd) / 32) &&& (mskOf (slot (rd + nI hd)) ^^^ (-1 : Int32)) else mA M (c + 4) i)) := pA_ok c12 (by rw [c13]; omega) (by omega)
      have hgo := RT_go hrt (by omega) q
      generalize hG : (fun i => if i = slot (rd + nI hd) / 32 then mA M (c + 4) (slot (rd + nI hd) / 32) &&& (mskOf (slot (rd + nI hd)) ^^^ (-1 : Int32)) else mA M (c + 4) i) = G at pX hgo
      have en : rd + nI hd + 1 = rd + nI (hd + 1) := by rw [Int32.add_assoc, nI_1]
      obtain ⟨A', M', hd', s1, s2, s3, s4, s5, s6, s7, s8, s9, s10, s11⟩ := ih (sF A 804 (342 + 4 * k) (rd + nI (hd + 1))) (sF (wA M (c + 4) G) 1 (c + 2) (rd + nI (hd + 1))) (hd + 1) (i + 1) (m - 1) (m2 - 1) (by omega) (by omega) (by omega) (by omega) hR hC (by rw [mF_sF, if_neg (by omega)]; exact hr) (by rw [mF_sF, if_pos ⟨rfl, rfl⟩]) (by rw [mF_sF, if_pos ⟨rfl, rfl⟩]) (by
        rw [mA_sF, mA_sF, mA_wA_self, mA_wA_ne (show c + 3 ≠ c + 4 by omega)]
        exact hgo)
      rw [show m - 1 + 1 = m by omega] at s1
      rw [show m2 - 1 + 1 = m2 by omega] at s2
      refine ⟨A', M', hd', ?_, ?_, by omega, s4, (FF.s (S := fun f => f = 804) _ rfl).tr s5, ⟨s6.1, s6.2.1, s6.2.2.1, fun f a hh => (s6.2.2.2.1 f a hh).trans (by rw [mF_sF, if_neg hh]; rfl), fun a hh => (s6.2.2.2.2 a hh).trans (by rw [mA_sF, mA_wA_ne hh])⟩, s7, s8, s9, s10, fun e => by rw [hth] at e; exact absurd e (by decide)⟩
      · rw [fX16_arrived_L131, gI_ok hA, ob_some, gI_ok hA, ob_some, hn, hr, add_sub_l, if_neg h4', gR_ok hA, ob_some, rw_cnTg hR k hk, ob_some, ob_some, add_sub_l, gT, ob_some, hth, if_neg (by decide), ob_some, pF_ok hA, ob_some, en]
        exact s1
      · rw [fX0_goOverWhatIsThere_L2, if_neg i4, gI_ok c7, ob_some, hx, and4095, ob_some, e5, emk, gR_ok c7, ob_some, c9, gX, ob_some, if_neg (fun e => by
          have : bitOf (mA M (c + 4)) (slot (rd + nI hd)) = false := (bit_tst _ _).mp e
          rw [q] at this; cases this), ob_some, gX, ob_some, pX, ob_some, gI_ok (by rw [ok_wA]; exact c7), ob_some, mF_wA, hx, pF_ok (by rw [ok_wA]; exact c7), ob_some, en, nI_1]
        exact s2
    · have q0 : bitOf (mA M (c + 4)) (slot (rd + nI hd)) = false := by
        cases hh : bitOf (mA M (c + 4)) (slot (rd + nI hd)) with
        | true => exact absurd hh q
        | false => rfl
      rw [q0, if_neg (by decide)] at hth
      refine ⟨A, M, hd, ?_, ?_, Nat.le_refl _, by omega, FF.rf, ⟨rfl, rfl, rfl, fun _ _ _ => rfl, fun _ _ => rfl⟩, hn, hx, hrt, fun _ => hth, fun _ => rfl⟩
      · rw [fX16_arrived_L131, gI_ok hA, ob_some, gI_ok hA, ob_some, hn, hr, add_sub_l, if_neg h4', gR_ok hA, ob_some, rw_cnTg hR k hk, ob_some, ob_some, add_sub_l, gT, ob_some, hth, if_pos rfl]
      · rw [fX0_goOverWhatIsThere_L2, if_neg i4, gI_ok c7, ob_some, hx, and4095, ob_some, e5, emk, gR_ok c7, ob_some, c9, gX, ob_some, if_pos ((bit_tst _ _).mpr q0)]
/-- is a segment acceptable, in both -/
theorem sp_accept (fu : Nat) {KN KS t T k c nw im ig hd ft bd da dx dl w : Nat} {b0 : Int32} {v : Nat → Nat} (h : TK A M KN KS t T im ig k c nw hd ft b0 v) (hk : k < 16) (hG : SG A M bd da dx dl w) :
    ∃ b : Int32, fX16_isAcceptable fu 323 (some (342 + 4 * k)) A = some (b, A) ∧ fX0_accepts fu (c + 2) (some 314) M = some (b, M) := by
  have hR := h.rw'
  have hW := h.xw
  have hA := rw_cnO hR k hk
  have o323 := rw_ok323 hR
  have o3 := xw_ok314 hW
  have c7 := h.cn.2.2.2.2.2.2.1
  have hr := h.cr
  have lie : ∀ n w : Int32, fX16_lies fu (some (342 + 4 * k)) n w A = some (if n - (mF A 804 (342 + 4 * k)) < 0 then 0 else if n - ((mF A 804 (342 + 4 * k)) + w) < 0 then 1 else 0, A) := fun n w => by
    unfold fX16_lies
    rw [gI_ok hA, ob_some, m_before, b2_some, if10]
    by_cases q : n - (mF A 804 (342 + 4 * k)) < 0
    · rw [if_pos q, if_pos q, rN0]
    · rw [if_neg q, if_neg q, gI_ok hA, ob_some, m_before, b2_some, if10]
      by_cases q2 : n - ((mF A 804 (342 + 4 * k)) + w) < 0
      · rw [if_pos q2, if_pos q2, rN1]
      · rw [if_neg q2, if_neg q2, rN0]
  have inw : ∀ n : Int32, fX0_isInWindow fu (c + 2) n M = some (if n - (mF A 804 (342 + 4 * k)) < 0 then 0 else if n - ((mF A 804 (342 + 4 * k)) + ((4096 : Int32) - hldA A k)) < 0 then 1 else 0, M) := fun n => by
    unfold fX0_isInWindow
    rw [gI_ok c7, ob_some, ← hr.nx]
    by_cases q : n - (mF A 804 (342 + 4 * k)) < 0
    · rw [if_pos q, if_pos q, rN0]
    · rw [if_neg q, if_neg q, ob_some, rc_ok c7, ob_some, x_window c7, b2_some, ← hldX_eq hr]
      by_cases q2 : n - ((mF A 804 (342 + 4 * k)) + ((4096 : Int32) - hldA A k)) < 0
      · rw [if_pos q2, if_neg (Int32.not_le.mpr q2), rN1]
      · rw [if_neg q2, if_pos (Int32.not_lt.mp q2), rN0]
  unfold fX16_isAcceptable fX0_accepts
  simp only [rc_ok hA, rc_ok o323, rc_ok o3, rc_ok c7, ob_some, m_open hR hk, m_extent fu hR hG.dl, x_span fu hW hG, x_window c7, b2_some, ← hldX_eq hr, gI_ok o323, gI_ok hA, gI_ok o3, gI_ok c7, lie, inw, ← hG.sq, ← hr.nx]
  by_cases p1 : (4096 : Int32) - hldA A k = 0
  · simp only [if_pos p1]
    by_cases p2 : nI (exN A dl) = 0
    · simp only [if_pos p2]
      by_cases p3 : (mF A 1058 323) = (mF A 804 (342 + 4 * k))
      · simp only [if_pos p3, rN1]
        exact ⟨1, rfl, rfl⟩
      · simp only [if_neg p3, rN0]
        exact ⟨0, rfl, rfl⟩
    · simp only [if_neg p2, rN0]
      exact ⟨0, rfl, rfl⟩
  · simp only [if_neg p1]
    by_cases p2 : (if (mF A 1058 323) - (mF A 804 (342 + 4 * k)) < 0 then (0 : Int32) else if (mF A 1058 323) - ((mF A 804 (342 + 4 * k)) + ((4096 : Int32) - hldA A k)) < 0 then 1 else 0) = 0
    · simp only [if_pos p2]
      by_cases p3 : nI (exN A dl) ≤ 0
      · simp only [if_pos p3, rN0]
        exact ⟨0, rfl, rfl⟩
      · simp only [if_neg p3]
        by_cases p4 : (if (mF A 1058 323) + nI (exN A dl) - 1 - (mF A 804 (342 + 4 * k)) < 0 then (0 : Int32) else if (mF A 1058 323) + nI (exN A dl) - 1 - ((mF A 804 (342 + 4 * k)) + ((4096 : Int32) - hldA A k)) < 0 then 1 else 0) = 0
        · simp only [if_pos p4, rN0]
          exact ⟨0, rfl, rfl⟩
        · simp only [if_neg p4, rN1]
          exact ⟨1, rfl, rfl⟩
    · simp only [if_neg p2, rN1]
      exact ⟨1, rfl, rfl⟩
end Come
