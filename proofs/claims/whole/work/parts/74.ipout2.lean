/-! ===== part 74: a packet goes out, or waits for its hop ===== -/
section Ask
variable {A M : Mm}
theorem XRR_same {KN KS : Nat} {M M' : Mm} (hS : mS M' = mS M) (hB : mB M' = mB M) (h : XRR KN KS M) : XRR KN KS M' := by
  unfold XRR rowN okA at *
  rw [hS, hB]
  exact h
theorem JQ_congr {T : Nat} {A A' M M' : Mm} (h1 : (mF A' 1047 323) = (mF A 1047 323)) (h2 : ∀ a, 332 ≤ a → a ≤ 334 → mA A' a = mA A a) (h3 : (mF M' 642 304) = (mF M 642 304)) (h4 : mB M' 306 = mB M 306) (h5 : ∀ i p, mB M 306 i = some p → (mF M' 385 p) = (mF M 385 p) ∧ (mF M' 386 p) = (mF M 386 p) ∧ mA M' (p + 1) = mA M (p + 1)) (h : JQ T A M) : JQ T A' M' := by
  obtain ⟨q1, q2, q3⟩ := h
  refine ⟨h1.trans q1, h3.trans q2, fun s h6 h7 => ?_⟩
  obtain ⟨p, n, r1, r2, r3, r4, r5, r6, r7⟩ := q3 s h6 h7
  obtain ⟨e1, e2, e3⟩ := h5 s p r1
  rw [h4, h2 332 (by decide) (by decide), h2 333 (by decide) (by decide), h2 334 (by decide) (by decide)]
  exact ⟨p, n, r1, r2, r3, r4, e1.trans r5, r6.trans e2.symm, fun j hj => by rw [e3]; exact r7 j hj⟩
theorem ring308 {KN KS : Nat} (hW : XW M) (hX : XRR KN KS M) : ∀ i p, mB M 306 i = some p → 308 ≠ p + 1 := by
  obtain ⟨nr, nw, nd, nc, -, -, -, -, r1, -⟩ := hX
  intro i p e q
  have h1 : p = 307 := by omega
  subst h1
  have := (xw_ok307 hW).2.2.symm.trans (rowN_at r1 e).2.2.2
  cases this
theorem sp_ask (fu : Nat) (hf : 2000 ≤ fu) {KN KS T : Nat} (hR : RW A) (hBA : By A) (hW : XW M) (hS : XS M) (hX : XRR KN KS M) (hP : JP A M) (hQ : JQ T A M) (hT2 : T < 2 ^ 30) (hop : Int32) :
    ∃ A' M' G, fX16_ask fu 323 hop A = some A' ∧ fX4_fillAsk fu 307 hop M = some (wA M 308 G) ∧ fX10_put fu 304 (some 308) (42 : Int32) (wA M 308 G) = some M' ∧ JQ (T + 1) A' M' ∧ XW M' ∧ XS M' ∧ XRR KN KS M' ∧ FrS A A' ∧ FrR (wA M 308 G) M' := by
  obtain ⟨p1, p2, p3, p4, ⟨nw, p5, p6, p7⟩, -⟩ := hP
  have hbB : ∀ j, isB (mA A 331 j) := fun j => hBA 331 j (rw_ok331 hR).2.2
  obtain ⟨A', M', r1, r2, r3, r4, r5, r6, r7, r8⟩ := sp_send fu hf (A := wA A 331 (arpB (mA A 331) 1 (mF A 1032 323) (mF A 1033 323) (mF A 1029 323) 0 0 hop)) (M := wA M 308 (hd5 (arpB (mA M 308) 1 (mF M 258 307) (mF M 259 307) (mF M 257 307) 0 0 hop) 65535 (-1) (mF M 258 307) (mF M 259 307) 2054)) (KN := KN) (KS := KS) (T := T) (nw := nw) (c := 28) hR (By_wA hBA (fun _ => isB_arpB hbB _ _ _ _ _ _ _)) hW (XS_same rfl rfl hS) (XRR_same rfl rfl hX) (JQ_congr (A := A) (M := M) rfl (fun a h1 h2 => mA_wA_ne (by omega)) rfl rfl (fun i p e => ⟨rfl, rfl, mA_wA_ne (Ne.symm (ring308 hW hX i p e))⟩) hQ) hT2 p5 p6 (by decide) (by decide) 65535 (-1) 2054 (src := 308) (xw_ok308 hW) (by show sLen (mS M) 308 < 2 ^ 30; rw [xw_ln308 hW]; decide) (by show 14 + 28 ≤ sLen (mS M) 308; rw [xw_ln308 hW]; decide) (ring308 hW hX) (by
    intro j hj
    rw [mA_wA_self, mA_wA_self]
    show hd5 (arpB (mA M 308) 1 (mF M 258 307) (mF M 259 307) (mF M 257 307) 0 0 hop) 65535 (-1) (mF M 258 307) (mF M 259 307) 2054 j = hd5 (arpB (mA A 331) 1 (mF A 1032 323) (mF A 1033 323) (mF A 1029 323) 0 0 hop) 65535 (-1) (mF A 1032 323) (mF A 1033 323) 2054 j
    rw [p1, p3, p4]
    exact hd5_c (fun _ => arpB_c (fun _ => by omega)))
  refine ⟨A', M', _, ?_, x_fillAsk hW fu hop, r2, r3, r4, r5, r6, ?_, r8⟩
  · unfold fX16_ask
    rw [rc_ok (rw_ok323 hR), ob_some, m_arpFrame hR (by omega)]
    have e : fX16_send fu 323 (65535 : Int32) (-1 : Int32) (2054 : Int32) (28 : Int32) (wA A 331 (arpB (mA A 331) 1 (mF A 1032 323) (mF A 1033 323) (mF A 1029 323) 0 0 hop)) = some A' := r1
    rw [e, ob_some]
  · obtain ⟨a1, a2, a3, a4, a5⟩ := r7
    exact ⟨a1, a2, a3, a4, fun a h => (a5 a h).trans (mA_wA_ne (by omega))⟩
end Ask
section Wait
variable {A M : Mm}
/-- the copy of a packet into the place where it waits -/
theorem m_ipOut_copy (h : RW A) (hB : By A) (fu : Nat) {k ln : Nat} (hk : k < 8) (hln : ln ≤ 1500) (hl : (mF A 962 (422 + 2 * k)) = nI ln) (x y : Int32) : ∀ m j, j ≤ ln → ln ≤ j + m → ∀ K : Nat → Int32,
    fX16_ipOut_L271 fu (m + 1) 323 x (some (422 + 2 * k)) y (nI j) (wA A (423 + 2 * k) (fun i => if i < j then mA A 331 (14 + i) else K i)) = fX16_ipOut_L271 fu (m + 1 - (ln - j)) 323 x (some (422 + 2 * k)) y (nI ln) (wA A (423 + 2 * k) (fun i => if i < ln then mA A 331 (14 + i) else K i)) := by
  intro m
  induction m with
  | zero => intro j h1 h2 K; obtain rfl : j = ln := by omega
            rw [Nat.sub_self]
  | succ m ih =>
    intro j h1 h2 K
    by_cases e : j = ln
    · subst e; rw [Nat.sub_self]; rfl
    · rw [fX16_ipOut_L271]
      have hR : RW (wA A (423 + 2 * k) (fun i => if i < j then mA A 331 (14 + i) else K i)) := h
      have c : ¬ nI ln ≤ nI j := nI_ge (by omega) (by omega)
      rw [gI_ok (rw_pkO hR k hk), ob_some, mF_wA, hl, if_neg c, gR_ok (rw_pkO hR k hk), ob_some, rw_pkYg hR k hk, gR_ok (rw_ok323 hR), ob_some, rw_g1043_323 hR, show (14 : Int32) + nI j = nI (14 + j) from nI_add 14 j, gA_ok (rw_ok331 hR) (by rw [rw_ln331 hR]; omega) (by omega), ob_some, mA_wA_ne (by omega), toB_byt _ (hB 331 _ (rw_ok331 h).2.2), pA_ok (rw_pkY hR k hk) (by rw [rw_pkYl hR k hk]; omega) (by omega), ob_some, mA_wA_self, wA_wA, nI_1]
      have e2 : (fun i => if i = j then mA A 331 (14 + j) else if i < j then mA A 331 (14 + i) else K i) = (fun i => if i < j + 1 then mA A 331 (14 + i) else K i) := by
        funext i
        by_cases c1 : i = j
        · subst c1; rw [if_pos rfl, if_pos (by omega)]
        · by_cases c2 : i < j
          · rw [if_neg c1, if_pos c2, if_pos (by omega)]
          · rw [if_neg c1, if_neg c2, if_neg (by omega)]
      rw [e2, ih (j + 1) (by omega) (by omega) K]
      congr 1
      omega
theorem JWa_put {n O nw : Nat} {s o : Nat → Nat} {A' M' : Mm} {i q ln : Nat} (h : JWa n O nw s o A M) {nww : Nat} (hrow : rowN M 313 6 nww) (hi : i < n) (hq : mB M 313 i = some q)
    (hA : ∀ f a, 960 ≤ f → f < 966 → ¬ (f = 962 ∧ a = 422 + 2 * s i) → mF A' f a = mF A f a) (h49 : (mF A' 1049 323) = (mF A 1049 323)) (hN : (mF A' 1034 323) = (mF A 1034 323)) (hAA : ∀ a, 422 ≤ a → a < 438 → a ≠ 423 + 2 * s i → mA A' a = mA A a) (hw : (mF M' 260 307) = (mF M 260 307)) (hB : mB M' 313 = mB M 313)
    (hF : ∀ f a, okA M 6 a → 385 ≤ f → f < 389 → ¬ (f = 385 ∧ a = q) → mF M' f a = mF M f a) (hM : ∀ j p, mB M 313 j = some p → p ≠ q → mA M' (p + 1) = mA M (p + 1))
    (g1 : mF A' 962 (422 + 2 * s i) = nI ln) (g2 : mF M' 385 q = nI (14 + ln)) (g3 : 28 ≤ ln) (g4 : ln ≤ 1500) (g5 : ∀ j, j < ln → mA A' (423 + 2 * s i) j = mA M' (q + 1) (14 + j)) : JWa n O nw s o A' M' := by
  obtain ⟨a1, a2, a3, a4, a5, a6, a7, a8, a9, a10, a11, a12⟩ := h
  have hoq := (rowN_at hrow hq).2
  refine ⟨a1, hw.trans a2, h49.trans a3, hN.trans a4, a5, a6, fun j hj => ?_, fun k hk h => ?_, fun j hj => ?_, a10, fun j hj => ⟨(a11 j hj).1, ?_⟩, fun j j' hi hj => ?_⟩
  · rw [hA _ _ (by decide) (by decide) (by omega)]; exact a7 j hj
  · rw [hA _ _ (by decide) (by decide) (by omega)]; exact a8 k hk h
  · obtain ⟨p, q1, q2⟩ := a9 j hj
    refine ⟨p, by rw [hB]; exact q1, ?_⟩
    have hop := (rowN_at hrow q1).2
    by_cases e : j = i
    · subst e
      have e2 : p = q := by rw [hq] at q1; cases q1; rfl
      subst e2
      obtain ⟨w1, ln', τ, as, w2, w3, w4, w5, w6, w7, w8, w9, w10, w11⟩ := q2
      refine ⟨?_, ln, τ, as, g1, g2, g3, g4, g5, ?_, ?_, ?_, ?_, w11⟩
      · rw [hA _ _ (by decide) (by decide) (by omega), hF _ _ hoq (by decide) (by decide) (by omega)]; exact w1
      · rw [hA _ _ (by decide) (by decide) (by omega)]; exact w7
      · rw [hF _ _ hoq (by decide) (by decide) (by omega)]; exact w8
      · rw [hA _ _ (by decide) (by decide) (by omega)]; exact w9
      · rw [hF _ _ hoq (by decide) (by decide) (by omega)]; exact w10
    · have e2 : p ≠ q := fun e3 => e (hrow.2.2 j i q (by rw [q1, e3]) hq)
      have e4 : s j ≠ s i := fun e3 => e (a6 j i hj hi e3)
      have := a5 j hj
      exact W1_congr (fun f h1 h2 => hA f _ h1 h2 (by omega)) (hAA _ (by omega) (by omega) (by omega)) (fun f h1 h2 => hF f p hop h1 h2 (by omega)) (hM j p q1 e2) q2
  · rw [hA _ _ (by decide) (by decide) (by omega)]; exact (a11 j hj).2
  · rw [hA _ _ (by decide) (by decide) (by omega), hA _ _ (by decide) (by decide) (by omega)]; exact a12 j j' hi hj
theorem JWa_add {n O nw : Nat} {s o : Nat → Nat} {A' M' : Mm} {k q ln : Nat} (h : JWa n O nw s o A M) {nww : Nat} (hrow : rowN M 313 6 nww) (hn : n < 8) (hk : k < 8) (hfree : ∀ i, i < n → s i ≠ k) (hnew : ∀ i, i < n → (mF A 961 (422 + 2 * (s i))) ≠ mF A' 961 (422 + 2 * k))
    (hA : ∀ f a, 960 ≤ f → f < 966 → a ≠ 422 + 2 * k → mF A' f a = mF A f a) (h49 : (mF A' 1049 323) = nI (O + 1)) (hN : (mF A' 1034 323) = (mF A 1034 323)) (hAA : ∀ a, 422 ≤ a → a < 438 → a ≠ 423 + 2 * k → mA A' a = mA A a) (hw : (mF M' 260 307) = nI (n + 1)) (hB : ∀ j, j ≠ n → mB M' 313 j = mB M 313 j) (hBn : mB M' 313 n = some q)
    (hqn : ∀ j p, j < n → mB M 313 j = some p → p ≠ q) (hF : ∀ f a, okA M 6 a → a ≠ q → 385 ≤ f → f < 389 → mF M' f a = mF M f a) (hM : ∀ j p, mB M 313 j = some p → p ≠ q → mA M' (p + 1) = mA M (p + 1))
    (g0 : mF A' 960 (422 + 2 * k) = 1) (g1 : mF A' 962 (422 + 2 * k) = nI ln) (g2 : mF M' 385 q = nI (14 + ln)) (g3 : 28 ≤ ln) (g4 : ln ≤ 1500) (g5 : ∀ j, j < ln → mA A' (423 + 2 * k) j = mA M' (q + 1) (14 + j)) (g6 : mF A' 961 (422 + 2 * k) = mF M' 387 q) (g7 : mF A' 963 (422 + 2 * k) = nI nw) (g8 : mF M' 386 q = nI nw) (g9 : mF A' 964 (422 + 2 * k) = 1) (g10 : mF M' 388 q = 1) (g11 : mF A' 965 (422 + 2 * k) = nI (O + 1)) :
    JWa (n + 1) (O + 1) nw (fun i => if i = n then k else s i) (fun i => if i = n then O + 1 else o i) A' M' := by
  obtain ⟨a1, a2, a3, a4, a5, a6, a7, a8, a9, a10, a11, a12⟩ := h
  have hs : ∀ i, i < n → (fun i => if i = n then k else s i) i = s i := fun i hi => by simp [Nat.ne_of_lt hi]
  have hsn : (fun i => if i = n then k else s i) n = k := by simp
  have ho : ∀ i, i < n → (fun i => if i = n then O + 1 else o i) i = o i := fun i hi => by simp [Nat.ne_of_lt hi]
  have hon : (fun i => if i = n then O + 1 else o i) n = O + 1 := by simp
  refine ⟨by omega, hw, h49, hN.trans a4, fun i hi => ?_, fun i j hi hj hij => ?_, fun i hi => ?_, fun k' hk' hno => ?_, fun i hi => ?_, fun i j hij hj => ?_, fun i hi => ?_, fun i j hi hj hij => ?_⟩
  · by_cases e : i = n
    · subst e; rw [hsn]; exact hk
    · rw [hs i (by omega)]; exact a5 i (by omega)
  · by_cases e1 : i = n
    · by_cases e2 : j = n
      · omega
      · rw [e1, hsn, hs j (by omega)] at hij
        exact absurd hij.symm (hfree j (by omega))
    · by_cases e2 : j = n
      · rw [e2, hsn, hs i (by omega)] at hij
        exact absurd hij (hfree i (by omega))
      · rw [hs i (by omega), hs j (by omega)] at hij
        exact a6 i j (by omega) (by omega) hij
  · by_cases e : i = n
    · subst e; rw [hsn]; exact g0
    · rw [hs i (by omega), hA _ _ (by decide) (by decide) (by have := hfree i (by omega); omega)]; exact a7 i (by omega)
  · have e1 : k' ≠ k := fun e => hno n (by omega) (by rw [hsn, e])
    rw [hA _ _ (by decide) (by decide) (by omega)]
    exact a8 k' hk' (fun i hi => by have := hno i (by omega); rw [hs i hi] at this; exact this)
  · by_cases e : i = n
    · subst e
      rw [hsn]
      exact ⟨q, hBn, g6, ln, nw, 1, g1, g2, g3, g4, g5, g7, g8, g9, g10, by omega, by omega, by omega, by omega⟩
    · rw [hs i (by omega)]
      obtain ⟨p, q1, q2⟩ := a9 i (by omega)
      have hpq := hqn i p (by omega) q1
      have hop := (rowN_at hrow q1).2
      have h3 := hfree i (by omega)
      have h4 := a5 i (by omega)
      exact ⟨p, by rw [hB i e]; exact q1, W1_congr (fun f h1 h2 => hA f _ h1 h2 (by omega)) (hAA _ (by omega) (by omega) (by omega)) (fun f h1 h2 => hF f p hop hpq h1 h2) (hM i p q1 hpq) q2⟩
  · by_cases e : j = n
    · subst e
      rw [hon, ho i hij]
      have := (a11 i hij).1
      omega
    · rw [ho j (by omega), ho i (by omega)]
      exact a10 i j hij (by omega)
  · by_cases e : i = n
    · subst e; rw [hsn, hon]; exact ⟨Nat.le_refl _, g11⟩
    · rw [hs i (by omega), ho i (by omega), hA _ _ (by decide) (by decide) (by have := hfree i (by omega); omega)]
      exact ⟨Nat.le_succ_of_le (a11 i (by omega)).1, (a11 i (by omega)).2⟩
  · by_cases e1 : i = n
    · by_cases e2 : j = n
      · omega
      · rw [e1, hsn, hs j (by omega), hA 961 (422 + 2 * s j) (by decide) (by decide) (by have := hfree j (by omega); omega)] at hij
        exact absurd hij.symm (hnew j (by omega))
    · by_cases e2 : j = n
      · rw [e2, hsn, hs i (by omega), hA 961 (422 + 2 * s i) (by decide) (by decide) (by have := hfree i (by omega); omega)] at hij
        exact absurd hij (hnew i (by omega))
      · rw [hs i (by omega), hs j (by omega), hA 961 (422 + 2 * s i) (by decide) (by decide) (by have := hfree i (by omega); omega), hA 961 (422 + 2 * s j) (by decide) (by decide) (by have := hfree j (by omega); omega)] at hij
        exact a12 i j (by omega) (by omega) hij
end Wait
