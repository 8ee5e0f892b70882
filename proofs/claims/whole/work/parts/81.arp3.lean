/-! ===== part 81: an ARP packet, whole; hops are asked for again ===== -/
/-- the tray, in both -/
def TrR (n tr : Nat) (A M : Mm) : Prop := (mF A 1025 323) = nI n ∧ okA M 100 tr ∧ n ≤ sLen (mS M) tr ∧ sLen (mS M) tr < 2 ^ 30 ∧ (∀ j, j < n → mA A 324 j = mA M tr j) ∧ tr ≠ 308 ∧ sTy (mS M) (tr - 1) ≠ 6 ∧ n ≤ 65540
section Arp3
variable {A M : Mm}
theorem n100 (hW : XW M) {a : Nat} (ha : okA M 100 a) : a < 309 ∨ 312 < a := by
  by_cases c : a < 309 ∨ 312 < a
  · exact c
  · have h2 := ha.2.2
    have : a = 309 ∨ a = 310 ∨ a = 311 ∨ a = 312 := by omega
    rcases this with rfl | rfl | rfl | rfl
    · exact absurd (h2.symm.trans (xw_ok309 hW).2.2) (by decide)
    · exact absurd (h2.symm.trans (xw_ok310 hW).2.2) (by decide)
    · exact absurd (h2.symm.trans (xw_ok311 hW).2.2) (by decide)
    · exact absurd (h2.symm.trans (xw_ok312 hW).2.2) (by decide)
theorem FrM.ok {M' : Mm} (h : FrM M M') {t a : Nat} (ha : okA M t a) : okA M' t a := okA_mono h.1 h.2.1 ha
theorem TrR_fr {A' M' : Mm} {n tr : Nat} (hW : XW M) (hA : FrA A A') (hM : FrM M M') (h : TrR n tr A M) : TrR n tr A' M' := by
  obtain ⟨a1, a2, a3, a4, a5, a6, -⟩ := hA
  have hM' := hM
  obtain ⟨b1, b2, b3, b4, b5, b6⟩ := hM'
  obtain ⟨t1, t2, t3, t4, t5, t6, t7, t8⟩ := h
  have hlt := t2.2.1
  refine ⟨(a5 _ _ (by decide) (by decide) (by decide) (by decide)).trans t1, hM.ok t2, by rw [(b2 tr hlt).2]; exact t3, by rw [(b2 tr hlt).2]; exact t4, fun j hj => ?_, t6, by rw [(b2 (tr - 1) (by omega)).1]; exact t7, t8⟩
  rw [a6 324 (by omega) (by omega), b6 tr hlt t6 (n100 hW t2) t7]
  exact t5 j hj
/-- an ARP frame goes out -/
theorem sp_tell (fu : Nat) (hf : 2000 ≤ fu) {KN KS t T : Nat} (hJ : JL0 KN KS t T A M) (hBA : By A) (hT2 : T < 2 ^ 30) (op th tl toH toL tg : Int32) :
    ∃ A' M', fX16_arpFrame fu 323 op toH toL th tl tg A = some A' ∧ fX10_put fu 304 (some 308) (42 : Int32) (wA M 308 (hd5 (arpB (mA M 308) op (mF M 258 307) (mF M 259 307) (mF M 257 307) th tl tg) toH toL (mF M 258 307) (mF M 259 307) 2054)) = some M' ∧ JL0 KN KS t (T + 1) A' M' ∧ FrA A A' ∧ FrM M M' := by
  have hJ1 := JL0_fr (arpB (mA A 331) op (mF A 1032 323) (mF A 1033 323) (mF A 1029 323) th tl tg) (JL0_out (hd5 (arpB (mA M 308) op (mF M 258 307) (mF M 259 307) (mF M 257 307) th tl tg) toH toL (mF M 258 307) (mF M 259 307) 2054) hJ)
  obtain ⟨hR, hW, hS, hX, hP, -⟩ := hJ
  obtain ⟨p1, p2, p3, p4, ⟨nw, p5, p6, p7⟩, -⟩ := hP
  have hbB : ∀ j, isB (mA A 331 j) := fun j => hBA 331 j (rw_ok331 hR).2.2
  have hJ1' := hJ1
  obtain ⟨hR1, hW1, hS1, hX1, -, hQ1, -⟩ := hJ1'
  obtain ⟨A', M', r1, r2, r3, r4, r5, r6, r7, r8⟩ := sp_send fu hf (nw := nw) (c := 28) hR1 (By_wA hBA (fun _ => isB_arpB hbB _ _ _ _ _ _ _)) hW1 hS1 hX1 hQ1 hT2 p5 p6 (by decide) (by decide) toH toL 2054 (src := 308) (xw_ok308 hW) (by show sLen (mS M) 308 < 2 ^ 30; rw [xw_ln308 hW]; decide) (by show 14 + 28 ≤ sLen (mS M) 308; rw [xw_ln308 hW]; decide) (ring308 hW hX) (by
    intro j hj
    rw [mA_wA_self, mA_wA_self]
    show hd5 (arpB (mA M 308) op (mF M 258 307) (mF M 259 307) (mF M 257 307) th tl tg) toH toL (mF M 258 307) (mF M 259 307) 2054 j = hd5 (arpB (mA A 331) op (mF A 1032 323) (mF A 1033 323) (mF A 1029 323) th tl tg) toH toL (mF A 1032 323) (mF A 1033 323) 2054 j
    rw [p1, p3, p4]
    exact hd5_c (fun _ => arpB_c (fun _ => by omega)))
  obtain ⟨v1, v2, v3⟩ := JL0_sent hJ1 r3 r4 r5 r6 r7 r8
  refine ⟨A', M', ?_, r2, v1, (FrA_wA _).tr v2, (FrM_wA _).tr v3⟩
  rw [m_arpFrame hR (by omega)]
  exact r1
theorem sp_arp_tell (fu : Nat) (hf : 2000 ≤ fu) {KN KS t T n tr : Nat} (hJ : JL0 KN KS t T A M) (hBA : By A) (hT2 : T < 2 ^ 30) (hT : TrR n tr A M) (h42 : 42 ≤ n) (op : Int32) (tu : Int32) (htu : tu = if w4 (mA A 324) 38 = (mF A 1029 323) then 1 else 0) :
    ∃ A' M' T', fX16_arp_L116 fu 323 op (h2 (mA A 324) 22) (w4 (mA A 324) 24) (w4 (mA A 324) 28) (w4 (mA A 324) 38) A = some A' ∧ fX4_takeArp_L171 fu 307 (some tr) op (w4 (mA A 324) 28) tu M = some M' ∧ T ≤ T' ∧ T' ≤ T + 1 ∧ JL0 KN KS t T' A' M' ∧ FrA A A' ∧ FrM M M' := by
  have hJ0 := hJ
  obtain ⟨hR, hW, hS, hX, hP, -⟩ := hJ
  obtain ⟨t1, t2, t3, t4, t5, t6, t7, t8⟩ := hT
  have e22 : h2 (mA M tr) 22 = h2 (mA A 324) 22 := h2_congr (t5 _ (by omega)).symm (t5 _ (by omega)).symm
  have e24 : w4 (mA M tr) 24 = w4 (mA A 324) 24 := w4_congr (fun j h1 h2 => (t5 j (by omega)).symm)
  unfold fX16_arp_L116 fX4_takeArp_L171
  by_cases c : w4 (mA A 324) 38 = (mF A 1029 323)
  · rw [if_pos c] at htu
    subst htu
    by_cases c1 : op = 1
    · subst c1
      obtain ⟨A', M', r1, r2, r3, r4, r5⟩ := sp_tell fu hf hJ0 hBA hT2 2 (h2 (mA A 324) 22) (w4 (mA A 324) 24) (h2 (mA A 324) 22) (w4 (mA A 324) 24) (w4 (mA A 324) 28)
      have l1 : fX11_two fu (some tr) (22 : Int32) M = some (h2 (mA M tr) 22, M) := x_two fu t2 t4 (i := 22) (by omega)
      have l2 : fX11_four fu (some tr) (24 : Int32) M = some (w4 (mA M tr) 24, M) := x_four fu t2 t4 (i := 24) (by omega)
      have l3 : ∀ G, fX11_two fu (some tr) (22 : Int32) (wA M 308 G) = some (h2 (mA M tr) 22, wA M 308 G) := fun G => by
        have := x_two (M := wA M 308 G) fu t2 t4 (i := 22) (by show 22 + 2 ≤ sLen (mS M) tr; omega)
        rw [mA_wA_ne t6] at this
        exact this
      have l4 : ∀ G, fX11_four fu (some tr) (24 : Int32) (wA M 308 G) = some (w4 (mA M tr) 24, wA M 308 G) := fun G => by
        have := x_four (M := wA M 308 G) fu t2 t4 (i := 24) (by show 24 + 4 ≤ sLen (mS M) tr; omega)
        rw [mA_wA_ne t6] at this
        exact this
      have hW1 : ∀ G, XW (wA M 308 G) := fun G => hW
      rw [if_pos rfl, gI_ok (rw_ok323 hR), ob_some, if_pos c, rc_ok (rw_ok323 hR), ob_some, r1, ob_some, if_neg (by decide), if_pos rfl, l1, b2_some, l2, b2_some, rc_ok (xw_ok307 hW), ob_some, x_fillArp hW, ob_some, gR_ok (xw_ok307 (hW1 _)), ob_some, xw_g256_307 (hW1 _), l3, b2_some, l4, b2_some, rc_ok (xw_ok307 (hW1 _)), ob_some, x_fillLink (hW1 _) (xw_ok308 (hW1 _)) (by rw [xw_ln308 (hW1 _)]; decide) (by rw [xw_ln308 (hW1 _)]; decide), ob_some, wA_wA, mA_wA_self, mF_wA, gR_ok (xw_ok307 (hW1 _)), ob_some, xw_g261_307 (hW1 _), gR_ok (xw_ok307 (hW1 _)), ob_some, xw_g256_307 (hW1 _), rc_ok (xw_ok304 (hW1 _)), ob_some, e22, e24, r2, ob_some]
      exact ⟨A', M', T + 1, rfl, rfl, by omega, Nat.le_refl _, r3, r4, r5⟩
    · rw [if_neg c1, if_neg (by decide), if_neg c1]
      exact ⟨A, M, T, rfl, rfl, Nat.le_refl _, by omega, hJ0, FrA.rf, FrM.rf⟩
  · rw [if_neg c] at htu
    subst htu
    rw [if_pos rfl]
    refine ⟨A, M, T, ?_, rfl, Nat.le_refl _, by omega, hJ0, FrA.rf, FrM.rf⟩
    by_cases c1 : op = 1
    · rw [if_pos c1, gI_ok (rw_ok323 hR), ob_some, if_neg c]
    · rw [if_neg c1]
theorem sp_arp_in (fu : Nat) (hf : 2000 ≤ fu) {KN KS t T n tr : Nat} (hJ : JL0 KN KS t T A M) (hBd : Bd RM TM A) (hT2 : T + 1 < 2 ^ 30) (hT : TrR n tr A M) (h42 : 42 ≤ n) (op : Int32) :
    ∃ A' M' T', fX16_arp_L51 fu 323 op A = some A' ∧ fX4_takeArp_L48 fu 307 (some tr) op M = some M' ∧ T ≤ T' ∧ T' ≤ T + 2 ∧ JL0 KN KS t T' A' M' ∧ FrA A A' ∧ FrM M M' := by
  have hJ0 := hJ
  have hT0 := hT
  obtain ⟨hR, hW, hS, hX, hP, hQ, hE, -⟩ := hJ
  obtain ⟨t1, t2, t3, t4, t5, t6, t7, t8⟩ := hT
  obtain ⟨p1, p2, p3, p4, ⟨nw, p5, p6, p7⟩, -⟩ := hP
  have e22 : h2 (mA M tr) 22 = h2 (mA A 324) 22 := h2_congr (t5 _ (by omega)).symm (t5 _ (by omega)).symm
  have e24 : w4 (mA M tr) 24 = w4 (mA A 324) 24 := w4_congr (fun j h1 h2 => (t5 j (by omega)).symm)
  have e28 : w4 (mA M tr) 28 = w4 (mA A 324) 28 := w4_congr (fun j h1 h2 => (t5 j (by omega)).symm)
  have e38 : w4 (mA M tr) 38 = w4 (mA A 324) 38 := w4_congr (fun j h1 h2 => (t5 j (by omega)).symm)
  have l28 : fX11_four fu (some tr) (28 : Int32) M = some (w4 (mA A 324) 28, M) := by rw [← e28]; exact x_four fu t2 t4 (i := 28) (by omega)
  have l38 : fX11_four fu (some tr) (38 : Int32) M = some (w4 (mA A 324) 38, M) := by rw [← e38]; exact x_four fu t2 t4 (i := 38) (by omega)
  have m22 : fX16_trayHalf fu 323 (22 : Int32) A = some (h2 (mA A 324) 22, A) := m_trayHalf hR fu (i := 22) (by decide)
  have m24 : fX16_trayWord fu 323 (24 : Int32) A = some (w4 (mA A 324) 24, A) := m_trayWord hR fu (i := 24) (by decide)
  have m28 : fX16_trayWord fu 323 (28 : Int32) A = some (w4 (mA A 324) 28, A) := m_trayWord hR fu (i := 28) (by decide)
  have m38 : fX16_trayWord fu 323 (38 : Int32) A = some (w4 (mA A 324) 38, A) := m_trayWord hR fu (i := 38) (by decide)
  unfold fX16_arp_L51 fX4_takeArp_L48
  rw [rc_ok (rw_ok323 hR), ob_some, m22, b2_some, rc_ok (rw_ok323 hR), ob_some, m24, b2_some, rc_ok (rw_ok323 hR), ob_some, m28, b2_some, rc_ok (rw_ok323 hR), ob_some, m38, b2_some, rc_ok (rw_ok323 hR), ob_some, l28, b2_some, l38, b2_some, gI_ok (xw_ok307 hW), ob_some]
  have htu : (if w4 (mA A 324) 38 = (mF M 257 307) then fX4_takeArp_L74 fu 307 (some tr) op (w4 (mA A 324) 28) 1 M else fX4_takeArp_L74 fu 307 (some tr) op (w4 (mA A 324) 28) 0 M) = fX4_takeArp_L74 fu 307 (some tr) op (w4 (mA A 324) 28) (if w4 (mA A 324) 38 = (mF A 1029 323) then 1 else 0) M := by
    rw [p1]
    by_cases c : w4 (mA A 324) 38 = (mF M 257 307)
    · rw [if_pos c, if_pos c]
    · rw [if_neg c, if_neg c]
  have htu' : (if w4 (mA A 324) 38 = mF M 257 307 then fX4_takeArp_L74 fu 307 (some tr) op (w4 (mA A 324) 28) (1 : Int32) M else fX4_takeArp_L74 fu 307 (some tr) op (w4 (mA A 324) 28) (0 : Int32) M) = _ := htu
  rw [htu']
  unfold fX4_takeArp_L74
  rw [rc_ok (xw_ok307 hW), ob_some]
  -- what an entry that is written leads to
  have put : ∀ k n' n, k < 16 → n' ≤ 16 → ((k < n ∧ n' = n) ∨ (k = n ∧ n' = n + 1)) → (∀ k, k < n → (mF A 896 (406 + k)) = 1) → (∀ k, n ≤ k → k < 16 → (mF A 896 (406 + k)) = 0) → (∀ k, k < n → (mF A 897 (406 + k)) = mA M 309 k ∧ (mF A 898 (406 + k)) = mA M 310 k ∧ (mF A 899 (406 + k)) = mA M 311 k ∧ (mF A 900 (406 + k)) = mA M 312 k) →
      ∃ A' M' T', (fX16_remember_L96 fu 323 (w4 (mA A 324) 28) (h2 (mA A 324) 22) (w4 (mA A 324) 24) (some (406 + k)) A).bind (fun M2 => fX16_arp_L116 fu 323 op (h2 (mA A 324) 22) (w4 (mA A 324) 24) (w4 (mA A 324) 28) (w4 (mA A 324) 38) M2) = some A' ∧ fX4_takeArp_L109 fu 307 (some tr) op (w4 (mA A 324) 28) (if w4 (mA A 324) 38 = (mF A 1029 323) then 1 else 0) (nI k) (sF M 265 307 (nI n')) = some M' ∧ T ≤ T' ∧ T' ≤ T + 2 ∧ JL0 KN KS t T' A' M' ∧ FrA A A' ∧ FrM M M' := by
    intro k n' n hk hn' hc h1 h2' h3
    obtain ⟨A1, M1, T1, r1, r2, r3, r4, r5, r6, r7⟩ := sp_remember fu hf (x := w4 (mA A 324) 28) (y := h2 (mA A 324) 22) (z := w4 (mA A 324) 24) hJ0 hBd.2.2.2.2 (by omega) hk hn' hc h1 h2' h3
    have hB1 := (oX16_remember_L96 fu 323 _ _ _ _ A hBd (by unfold RM; omega) (inR_some (by unfold RM; omega)) r1).2
    have hT1 := TrR_fr hW r6 r7 hT0
    have ha324 : mA A1 324 = mA A 324 := r6.2.2.2.2.2.1 324 (by omega) (by omega)
    have hip : mF A1 1029 323 = (mF A 1029 323) := r6.2.2.2.2.1 _ _ (by decide) (by decide) (by decide) (by decide)
    obtain ⟨A2, M2, T2, s1, s2, s3, s4, s5, s6, s7⟩ := sp_arp_tell fu hf r5 hB1.2.2.2.2 (by omega) hT1 h42 op (if w4 (mA A 324) 38 = (mF A 1029 323) then 1 else 0) (by rw [ha324, hip])
    rw [ha324] at s1 s2
    refine ⟨A2, M2, T2, by rw [r1, ob_some]; exact s1, ?_, by omega, by omega, s5, r6.tr s6, r7.tr s7⟩
    unfold fX4_takeArp_L109
    have hW1 : XW (sF M 265 307 (nI n')) := hW
    have w309 : tr ≠ 309 := by have := n100 hW t2; omega
    have w310 : tr ≠ 310 := by have := n100 hW t2; omega
    have lT2 : ∀ (M1 : Mm), mS M1 = mS M → mA M1 tr = mA M tr → fX11_two fu (some tr) (22 : Int32) M1 = some (h2 (mA A 324) 22, M1) := fun M1 g1 g2 => by
      rw [← e22, ← g2]
      exact x_two (M := M1) fu (by unfold okA; rw [g1]; exact t2) (by rw [g1]; exact t4) (i := 22) (by rw [g1]; omega)
    have lT4 : ∀ (M1 : Mm), mS M1 = mS M → mA M1 tr = mA M tr → fX11_four fu (some tr) (24 : Int32) M1 = some (w4 (mA A 324) 24, M1) := fun M1 g1 g2 => by
      rw [← e24, ← g2]
      exact x_four (M := M1) fu (by unfold okA; rw [g1]; exact t2) (by rw [g1]; exact t4) (i := 24) (by rw [g1]; omega)
    have g309 : ∀ (M1 : Mm) (a : Nat) (v : Int32), tr ≠ a → mA (sA M1 a k v) tr = mA M1 tr := fun M1 a v h => by
      funext j
      rw [mA_sA, if_neg (fun e => h e.1)]
    rw [if_neg (nI_pos (by omega)), gR_ok (xw_ok307 hW1), ob_some, xw_g266_307 hW1, pA_ok (xw_ok309 hW1) (by rw [xw_ln309 hW1]; exact hk) (by omega), ob_some, ← sA_wA]
    have hW2 : XW (sA (sF M 265 307 (nI n')) 309 k (w4 (mA A 324) 28)) := hW
    rw [gR_ok (xw_ok307 hW2), ob_some, xw_g267_307 hW2, lT2 (sA (sF M 265 307 (nI n')) 309 k (w4 (mA A 324) 28)) rfl (g309 (sF M 265 307 (nI n')) 309 (w4 (mA A 324) 28) w309), b2_some, pA_ok (xw_ok310 hW2) (by rw [xw_ln310 hW2]; exact hk) (by omega), ob_some, ← sA_wA]
    have hW3 : XW (sA (sA (sF M 265 307 (nI n')) 309 k (w4 (mA A 324) 28)) 310 k (h2 (mA A 324) 22)) := hW
    rw [gR_ok (xw_ok307 hW3), ob_some, xw_g268_307 hW3, lT4 (sA (sA (sF M 265 307 (nI n')) 309 k (w4 (mA A 324) 28)) 310 k (h2 (mA A 324) 22)) rfl ((g309 (sA (sF M 265 307 (nI n')) 309 k (w4 (mA A 324) 28)) 310 (h2 (mA A 324) 22) w310).trans (g309 (sF M 265 307 (nI n')) 309 (w4 (mA A 324) 28) w309)), b2_some, pA_ok (xw_ok311 hW3) (by rw [xw_ln311 hW3]; exact hk) (by omega), ob_some, ← sA_wA]
    have hW4 : XW (sA (sA (sA (sF M 265 307 (nI n')) 309 k (w4 (mA A 324) 28)) 310 k (h2 (mA A 324) 22)) 311 k (w4 (mA A 324) 24)) := hW
    rw [gR_ok (xw_ok307 hW4), ob_some, xw_g269_307 hW4, gR_ok (xw_ok307 hW4), ob_some, xw_g261_307 hW4, gI_ok (xw_ok304 hW4), ob_some, pA_ok (xw_ok312 hW4) (by rw [xw_ln312 hW4]; exact hk) (by omega), ob_some, ← sA_wA]
    have enow : mF (sA (sA (sA (sF M 265 307 (nI n')) 309 k (w4 (mA A 324) 28)) 310 k (h2 (mA A 324) 22)) 311 k (w4 (mA A 324) 24)) 641 304 = (mF M 641 304) := by
      simp only [mF_sA, mF_sF, reduceIte, Nat.reduceEqDiff, Nat.reduceAdd, Nat.reduceMul, Nat.reduceLT, Nat.reduceLeDiff, and_true, true_and, and_false, false_and, and_self, ne_eq, not_true_eq_false, not_false_eq_true, Option.some.injEq, reduceCtorEq]
    have hW5 : XW (setX M k n' (w4 (mA A 324) 28) (h2 (mA A 324) 22) (w4 (mA A 324) 24) (mF M 641 304)) := hW
    rw [enow]
    show (rc (setX M k n' (w4 (mA A 324) 28) (h2 (mA A 324) 22) (w4 (mA A 324) 24) (mF M 641 304)) 4 (some 307)).bind _ = _
    unfold setX at r2
    rw [rc_ok (xw_ok307 hW5), ob_some, r2, ob_some]
    exact s2
  obtain ⟨n0, n16, he, h1, h2', h3⟩ := hE
  have hrem : ∀ q, fX16_arp_L108 fu 323 op (h2 (mA A 324) 22) (w4 (mA A 324) 24) (w4 (mA A 324) 28) (w4 (mA A 324) 38) A = (fX16_remember fu 323 (w4 (mA A 324) 28) (h2 (mA A 324) 22) (w4 (mA A 324) 24) A).bind (fun M2 => fX16_arp_L116 fu 323 op (h2 (mA A 324) 22) (w4 (mA A 324) 24) (w4 (mA A 324) 28) (w4 (mA A 324) 38) M2) := fun q : Unit => by
    unfold fX16_arp_L108
    rw [rc_ok (rw_ok323 hR), ob_some]
  rcases sp_entry hR hW ⟨n0, n16, he, h1, h2', h3⟩ (show 17 ≤ fu by omega) (w4 (mA A 324) 28) with ⟨c1, c2⟩ | ⟨k, n1, hk, hn1, he1, c1, c2⟩
  · rw [c1, c2, b2_some, b2_some, if_pos rfl, if_neg (by decide)]
    have none_ : ∃ A' M' T', fX16_arp_L116 fu 323 op (h2 (mA A 324) 22) (w4 (mA A 324) 24) (w4 (mA A 324) 28) (w4 (mA A 324) 38) A = some A' ∧ fX4_takeArp_L109 fu 307 (some tr) op (w4 (mA A 324) 28) (if w4 (mA A 324) 38 = (mF A 1029 323) then 1 else 0) (-1 : Int32) M = some M' ∧ T ≤ T' ∧ T' ≤ T + 2 ∧ JL0 KN KS t T' A' M' ∧ FrA A A' ∧ FrM M M' := by
      obtain ⟨A', M', T', s1, s2, s3, s4, s5, s6, s7⟩ := sp_arp_tell fu hf hJ0 hBd.2.2.2.2 (by omega) hT0 h42 op _ rfl
      refine ⟨A', M', T', s1, ?_, s3, by omega, s5, s6, s7⟩
      unfold fX4_takeArp_L109
      rw [if_pos (by decide)]
      exact s2
    rw [gI_ok (rw_ok323 hR), ob_some]
    by_cases d1 : w4 (mA A 324) 38 = (mF A 1029 323)
    · rw [if_pos d1, if_pos d1, ob_some, if_neg (show ¬ (1 : Int32) = 0 by decide), gI_ok (xw_ok307 hW), ob_some]
      rw [if_pos d1] at none_ put
      by_cases d2 : w4 (mA A 324) 28 = (mF A 1029 323)
      · rw [if_pos d2, if_pos (d2.trans p1)]
        exact none_
      · rw [if_neg d2, if_neg (fun e => d2 (e.trans p1.symm)), rc_ok (xw_ok307 hW), ob_some, hrem ()]
        unfold fX16_remember
        obtain ⟨k, n', g1, g2, g3, g4, g5⟩ := sp_newEntry hR hW n16 he h1 h2' (fun k hk => (h3 k hk).2.2.2) (show 20 ≤ fu by omega) (w4 (mA A 324) 28) (h2 (mA A 324) 22) (w4 (mA A 324) 24)
        have e0 : gB A 124 (some 335) (0 : Int32) = some (some 406) := by
          have := gB_ok (i := 0) (rw_ok335 hR) (by rw [rw_ln335 hR]; decide) (by decide)
          rw [rw_enB hR 0 (by decide)] at this
          exact this
        rw [rc_ok (rw_ok323 hR), ob_some, c1, b2_some, if_pos rfl, gR_ok (rw_ok323 hR), ob_some, rw_g1050_323 hR, e0, ob_some, g4, g5, b2_some]
        exact put k n' n0 g1 g2 g3 h1 h2' h3
    · rw [if_neg d1, if_neg d1, if_pos rfl]
      rw [if_neg d1] at none_
      exact none_
  · obtain rfl : n1 = n0 := nIinj (by omega) (by omega) (he1.symm.trans he)
    rw [c1, c2, b2_some, b2_some, if_neg (by simp), if_pos (nI_0le (by omega)), hrem ()]
    unfold fX16_remember
    rw [rc_ok (rw_ok323 hR), ob_some, c1, b2_some, if_neg (by simp)]
    have := put k n1 n1 (by omega) hn1 (Or.inl ⟨hk, rfl⟩) h1 h2' h3
    rw [sF_id he] at this
    exact this
theorem sp_arp (fu : Nat) (hf : 2000 ≤ fu) {KN KS t T n tr : Nat} (hJ : JL0 KN KS t T A M) (hBd : Bd RM TM A) (hT2 : T + 1 < 2 ^ 30) (hT : TrR n tr A M) :
    ∃ A' M' T', fX16_arp fu 323 A = some A' ∧ fX4_takeArp fu 307 (some tr) (nI n) M = some M' ∧ T ≤ T' ∧ T' ≤ T + 2 ∧ JL0 KN KS t T' A' M' ∧ FrA A A' ∧ FrM M M' := by
  have hR := hJ.1
  have hW := hJ.2.1
  have hT0 := hT
  obtain ⟨t1, t2, t3, t4, t5, t6, t7, t8⟩ := hT
  unfold fX16_arp fX4_takeArp
  rw [gI_ok (rw_ok323 hR), ob_some, t1]
  have same : ∃ A' M' T', some A = some A' ∧ some M = some M' ∧ T ≤ T' ∧ T' ≤ T + 2 ∧ JL0 KN KS t T' A' M' ∧ FrA A A' ∧ FrM M M' := ⟨A, M, T, rfl, rfl, Nat.le_refl _, by omega, hJ, FrA.rf, FrM.rf⟩
  by_cases c : n < 42
  · rw [if_pos (show nI n < (42 : Int32) from nI_lt (b := 42) c (by decide)), if_pos (show nI n < (42 : Int32) from nI_lt (b := 42) c (by decide))]
    exact same
  · have c' : ¬ nI n < (42 : Int32) := fun e => by
      have h3 : (42 : Int32) ≤ nI n := nI_le (a := 42) (by omega) (by omega)
      exact Int32.not_lt.mpr h3 e
    have e14 : w4 (mA M tr) 14 = w4 (mA A 324) 14 := w4_congr (fun j h1 h2 => (t5 j (by omega)).symm)
    have e18 : h2 (mA M tr) 18 = h2 (mA A 324) 18 := h2_congr (t5 _ (by omega)).symm (t5 _ (by omega)).symm
    have e20 : h2 (mA M tr) 20 = h2 (mA A 324) 20 := h2_congr (t5 _ (by omega)).symm (t5 _ (by omega)).symm
    have l14 : fX11_four fu (some tr) (14 : Int32) M = some (w4 (mA A 324) 14, M) := by rw [← e14]; exact x_four fu t2 t4 (i := 14) (by omega)
    have l18 : fX11_two fu (some tr) (18 : Int32) M = some (h2 (mA A 324) 18, M) := by rw [← e18]; exact x_two fu t2 t4 (i := 18) (by omega)
    have l20 : fX11_two fu (some tr) (20 : Int32) M = some (h2 (mA A 324) 20, M) := by rw [← e20]; exact x_two fu t2 t4 (i := 20) (by omega)
    have m14 : fX16_trayWord fu 323 (14 : Int32) A = some (w4 (mA A 324) 14, A) := m_trayWord hR fu (i := 14) (by decide)
    have m18 : fX16_trayHalf fu 323 (18 : Int32) A = some (h2 (mA A 324) 18, A) := m_trayHalf hR fu (i := 18) (by decide)
    have m20 : fX16_trayHalf fu 323 (20 : Int32) A = some (h2 (mA A 324) 20, A) := m_trayHalf hR fu (i := 20) (by decide)
    rw [if_neg c', if_neg c', rc_ok (rw_ok323 hR), ob_some, m14, b2_some, l14, b2_some]
    by_cases d1 : w4 (mA A 324) 14 = 67584
    · rw [if_pos d1, if_pos d1, rc_ok (rw_ok323 hR), ob_some, m18, b2_some, l18, b2_some]
      by_cases d2 : h2 (mA A 324) 18 = 1540
      · rw [if_pos d2, if_pos d2, rc_ok (rw_ok323 hR), ob_some, m20, b2_some, l20, b2_some]
        by_cases d3 : h2 (mA A 324) 20 = 1
        · rw [if_pos d3, if_pos d3]
          exact sp_arp_in fu hf hJ hBd hT2 hT0 (by omega) _
        · rw [if_neg d3, if_neg d3]
          by_cases d4 : h2 (mA A 324) 20 = 2
          · rw [if_pos d4, if_pos d4]
            exact sp_arp_in fu hf hJ hBd hT2 hT0 (by omega) _
          · rw [if_neg d4, if_neg d4]
            exact same
      · rw [if_neg d2, if_neg d2]
        exact same
    · rw [if_neg d1, if_neg d1]
      exact same
end Arp3
