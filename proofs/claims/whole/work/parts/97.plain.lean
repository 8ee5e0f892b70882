/-! ===== part 97: plain segments, in both ===== -/
section Plain
variable {A A' M M' : Mm}
/-- only a connection is other than it was: the link level is as it was -/
theorem JL0_cn {KN KS t T c : Nat} (h : JL0 KN KS t T A M) (hC : CnO M c) (aS : mS A' = mS A) (aG : mG A' = mG A) (aB : mB A' = mB A) (aF : ∀ f a, (JLf f ∨ f = 1049) → mF A' f a = mF A f a) (aA : ∀ a, (332 ≤ a ∧ a ≤ 334) ∨ (422 ≤ a ∧ a < 438) → mA A' a = mA A a)
    (mS' : mS M' = mS M) (mG' : mG M' = mG M) (mB' : mB M' = mB M) (mF' : ∀ f a, a ≠ c → a ≠ c + 2 → a ≠ c + 5 → (f < 448 ∨ 512 ≤ f) → mF M' f a = mF M f a) (mA' : ∀ a, a ≠ c + 1 → a ≠ c + 3 → a ≠ c + 4 → a ≠ 305 → a ≠ 308 → a ≠ 320 → a ≠ 321 → mA M' a = mA M a) : JL0 KN KS t T A' M' := by
  have h' := h
  obtain ⟨hR, hW, hS, hX, -⟩ := h'
  obtain ⟨c1, c2, c3, c4, c5, c6, c7, c8, c9, c10, c11, c12, c13, c14⟩ := hC
  have ne : ∀ t a, okA M t a → t ≠ 1 → t ≠ 0 → t ≠ 5 → a ≠ c ∧ a ≠ c + 2 ∧ a ≠ c + 5 := fun t a h1 h2 h3 h4 => ⟨fun e => by subst e; exact h2 (h1.2.2.symm.trans c1.2.2), fun e => by subst e; exact h3 (h1.2.2.symm.trans c7.2.2), fun e => by subst e; exact h4 (h1.2.2.symm.trans c14.2.2)⟩
  have n307 := ne 4 307 (xw_ok307 hW) (by decide) (by decide) (by decide)
  have n304 := ne 10 304 (xw_ok304 hW) (by decide) (by decide) (by decide)
  have f8 : ∀ a, 309 ≤ a → a ≤ 312 → a ≠ c + 1 ∧ a ≠ c + 3 ∧ a ≠ c + 4 := fun a h1 h2 => by
    have m1 := (ne 10 304 (xw_ok304 hW) (by decide) (by decide) (by decide)).1
    have m2 := (ne 101 305 (xw_ok305 hW) (by decide) (by decide) (by decide)).1
    have m3 := (ne 116 306 (xw_ok306 hW) (by decide) (by decide) (by decide)).1
    have m4 := (ne 4 307 (xw_ok307 hW) (by decide) (by decide) (by decide)).1
    have m5 := (ne 100 308 (xw_ok308 hW) (by decide) (by decide) (by decide)).1
    have m6 := (ne 101 309 (xw_ok309 hW) (by decide) (by decide) (by decide)).1
    have m7 := (ne 101 310 (xw_ok310 hW) (by decide) (by decide) (by decide)).1
    have m8 := (ne 101 311 (xw_ok311 hW) (by decide) (by decide) (by decide)).1
    omega
  have hpk : ∀ p, okA M 6 p → p + 1 ≠ c + 1 ∧ p + 1 ≠ c + 3 ∧ p + 1 ≠ c + 4 ∧ p + 1 ≠ 305 ∧ p + 1 ≠ 308 ∧ p + 1 ≠ 320 ∧ p + 1 ≠ 321 := fun p hp => by
    have m1 := (ne 6 p hp (by decide) (by decide) (by decide))
    have m2 : p ≠ c + 3 := fun e => by subst e; exact absurd (hp.2.2.symm.trans c10.2.2) (by decide)
    have m3 : p ≠ 304 := fun e => by subst e; exact absurd (hp.2.2.symm.trans (xw_ok304 hW).2.2) (by decide)
    have m4 : p ≠ 307 := fun e => by subst e; exact absurd (hp.2.2.symm.trans (xw_ok307 hW).2.2) (by decide)
    have m5 : p ≠ 319 := fun e => by subst e; exact absurd (hp.2.2.symm.trans (xw_ok319 hW).2.2) (by decide)
    have m6 : p ≠ 320 := fun e => by subst e; exact absurd (hp.2.2.symm.trans (xw_ok320 hW).2.2) (by decide)
    omega
  have := JL0_keep (A' := A') (M' := M') (u := 0) h (by obtain ⟨_, _, _, _, _, q, -⟩ := h.2.2.2.2.2.2.2; omega) (by rw [show RW A' = RW A from by unfold RW okA; rw [aS, aG, aB]]; exact hR) (by rw [show XW M' = XW M from by unfold XW okA; rw [mS', mG']]; exact hW) (XS_same mS' mG' hS) (XRR_same mS' mB' hX) (fun f a h => aF f a (Or.inl h)) (fun O e => ⟨O, (aF _ _ (Or.inr rfl)).trans e, Nat.le_refl _, by omega⟩) aA (fun f h1 h2 => mF' f _ n307.1 n307.2.1 n307.2.2 (by omega)) (fun f h1 h2 => mF' f _ n304.1 n304.2.1 n304.2.2 (by omega)) (fun p hp => ⟨fun f h1 h2 => by
    have q := ne 6 p hp (by decide) (by decide) (by decide)
    exact mF' f _ q.1 q.2.1 q.2.2 (by omega), by
    obtain ⟨q1, q2, q3, q4, q5, q6, q7⟩ := hpk p hp
    exact mA' _ q1 q2 q3 q4 q5 q6 q7⟩) (fun a h1 h2 => mA' a (f8 a h1 h2).1 (f8 a h1 h2).2.1 (f8 a h1 h2).2.2 (by omega) (by omega) (by omega) (by omega)) (by rw [mB']) (by rw [mB'])
  exact this
theorem JL0_payX {KN KS t T c : Nat} {fl : Int32} (h : JL0 KN KS t T A M) (hC : CnO M c) : JL0 KN KS t T A (payX M c fl) :=
  JL0_cn h hC rfl rfl rfl (fun _ _ _ => rfl) (fun _ _ => rfl) payX_S payX_G payX_B (fun f a h1 h2 h3 h4 => payX_F (fun e => h2 e.2) (fun e => h2 e.2)) (fun a _ _ _ _ _ _ _ => by rw [payX_A])
/-- a segment with n bytes of data and without SYN -/
theorem sp_plain (fu : Nat) (hf : 2000 ≤ fu) {KN KS t T k c n : Nat} (hJ : JL0 KN KS t T A M) (hBA : By A) (hT2 : T < 2 ^ 30) (hC : CnO M c) (hk : k < 16) (e1 : (mF A 769 (342 + 4 * k)) = (mF M 65 c)) (e2 : (mF A 770 (342 + 4 * k)) = (mF M 66 c)) (e3 : (mF A 804 (342 + 4 * k)) = (mF M 1 (c + 2))) (e4 : hldA A k = hldX M c) {fl : Nat} (hfl : fl < 32) (hsyn : (nI fl &&& 2) = 0) (hn : n ≤ 1460) (hal : fX1_allows fu c (nI fl) (nI n) M = some (1, M)) (seq : Int32) (hdat : ∀ j, 54 ≤ j → j < 54 + n → mA A 331 j = mA M 308 j) :
    ∃ A' M1 M' T', fX16_segmentOut fu 323 (mF A 769 (342 + 4 * k)) 80 (mF A 770 (342 + 4 * k)) seq (mF A 804 (342 + 4 * k)) (nI fl) ((4096 : Int32) - hldA A k) 0 (nI n) A = some A' ∧ fX9_fill fu 317 (some c) seq (nI fl) (nI n) M = some (nI (20 + n), M1) ∧ XW M1 ∧ fX4_send fu 307 (mF M 65 c) 6 (nI (20 + n)) M1 = some M' ∧ T ≤ T' ∧ T' ≤ T + 1 ∧ JL0 KN KS t T' A' M' ∧ FrA A A' ∧ FrM (payX M c (nI fl)) M' := by
  have hR := hJ.1
  have hW := hJ.2.1
  obtain ⟨p1, -⟩ := hJ.2.2.2.2.1
  have hJp := JL0_payX (fl := nI fl) hJ hC
  have hJ1 := JL0_fr (tS (tA (mA A 331) 80 (mF A 770 (342 + 4 * k)) seq (mF A 804 (342 + 4 * k)) 80 (nI fl) ((4096 : Int32) - hldA A k)) (mF A 1029 323) (mF A 769 (342 + 4 * k)) (20 + n)) (JL0_out (tS (tX (mA M 308) 80 (mF M 66 c) seq (mF M 1 (c + 2)) (nI fl) ((4096 : Int32) - hldX M c)) (mF M 257 307) (mF M 65 c) (20 + n)) hJp)
  have hB331 : ∀ j, isB (mA A 331 j) := fun j => hBA 331 j (rw_ok331 hR).2.2
  obtain ⟨A', M', T', z1, z2, z3, z4, z5, z6, z7⟩ := sp_ipOut fu hf (len := 20 + n) hJ1 (By_wA hBA (fun _ => isB_up2 (isB_tA hB331 _ _ _ _ _ _ _) _ _)) hT2 (by omega) (by omega) (fun j h1 h2 => by
    rw [mA_wA_self, mA_wA_self, e1, e2, e3, e4, p1]
    exact tS_c (fun i h3 h4 => tAX hfl (fun q => hdat i (by omega) (by omega))) h1 h2) (mF A 769 (342 + 4 * k)) 6
  refine ⟨A', _, M', T', ?_, x_fillP hW hf hC hn seq (nI fl) hsyn hal, hJp.2.1, ?_, z3, z4, z5, (FrA_wA _).tr z6, (FrM_wA _).tr z7⟩
  · rw [m_segOut hR hf hn, z1, ob_some]
  · rw [e1] at z2; exact z2
theorem sp_sendPlain (fu : Nat) (hf : 2000 ≤ fu) {KN KS t T k c : Nat} (hJ : JL0 KN KS t T A M) (hBA : By A) (hT2 : T < 2 ^ 30) (hC : CnO M c) (hk : k < 16) (e1 : (mF A 769 (342 + 4 * k)) = (mF M 65 c)) (e2 : (mF A 770 (342 + 4 * k)) = (mF M 66 c)) (e3 : (mF A 804 (342 + 4 * k)) = (mF M 1 (c + 2))) (e4 : hldA A k = hldX M c) {fl : Nat} (hfl : fl < 32) (hsyn : (nI fl &&& 2) = 0) (hfin : (nI fl &&& 1) = 0) (hst : (mF M 64 c) ≠ 0) (seq : Int32) :
    ∃ A' M' T', fX16_segmentOut fu 323 (mF A 769 (342 + 4 * k)) 80 (mF A 770 (342 + 4 * k)) seq (mF A 804 (342 + 4 * k)) (nI fl) ((4096 : Int32) - hldA A k) 0 0 A = some A' ∧ fX9_sendPlain fu 317 (some c) seq (nI fl) M = some M' ∧ T ≤ T' ∧ T' ≤ T + 1 ∧ JL0 KN KS t T' A' M' ∧ FrA A A' ∧ FrM (payX M c (nI fl)) M' := by
  have hC' := hC
  obtain ⟨c1, -⟩ := hC'
  have hal : fX1_allows fu c (nI fl) (nI 0) M = some (1, M) := by
    unfold fX1_allows fX1_allows_L66 fX1_allows_L71
    simp only [gI_ok c1, ob_some]
    rw [if_pos hsyn, if_neg hst, if_neg hst]
    have z : (nI 0 : Int32) = 0 := rfl
    simp only [z, if_pos hfin, rN1, rN0, if_true, if_neg (show ¬ (1 : Int32) = 0 by decide), ite_self]
  obtain ⟨A', M1, M', T', r1, r2, r3, r4, r5⟩ := sp_plain fu hf (n := 0) hJ hBA hT2 hC hk e1 e2 e3 e4 hfl hsyn (by decide) hal seq (fun j h1 h2 => by omega)
  have hW := hJ.2.1
  refine ⟨A', M', T', r1, ?_, r5⟩
  unfold fX9_sendPlain
  have r2' : fX9_fill fu 317 (some c) seq (nI fl) 0 M = some (nI (20 + 0), M1) := r2
  rw [gR_ok (xw_ok317 hW), ob_some, xw_g577_317 hW, gI_ok c1, ob_some, rc_ok (xw_ok317 hW), ob_some, r2', b2_some, rc_ok (xw_ok307 r3), ob_some, r4, ob_some]
theorem sp_sendSyn (fu : Nat) (hf : 2000 ≤ fu) {KN KS t T k c : Nat} (hJ : JL0 KN KS t T A M) (hBA : By A) (hT2 : T < 2 ^ 30) (hC : CnO M c) (hk : k < 16) (e1 : (mF A 769 (342 + 4 * k)) = (mF M 65 c)) (e2 : (mF A 770 (342 + 4 * k)) = (mF M 66 c)) (e3 : (mF A 804 (342 + 4 * k)) = (mF M 1 (c + 2))) (e4 : hldA A k = hldX M c) (hst : (mF M 64 c) = 1) (seq : Int32) :
    ∃ A' M' T', fX16_segmentOut fu 323 (mF A 769 (342 + 4 * k)) 80 (mF A 770 (342 + 4 * k)) seq (mF A 804 (342 + 4 * k)) 18 ((4096 : Int32) - hldA A k) 4 0 A = some A' ∧ fX9_sendPlain fu 317 (some c) seq 18 M = some M' ∧ T ≤ T' ∧ T' ≤ T + 1 ∧ JL0 KN KS t T' A' M' ∧ FrA A A' ∧ FrM (payX M c 18) M' := by
  have hR := hJ.1
  have hW := hJ.2.1
  have hC' := hC
  obtain ⟨c1, -⟩ := hC'
  obtain ⟨p1, -⟩ := hJ.2.2.2.2.1
  have hJp := JL0_payX (fl := 18) hJ hC
  have hJ1 := JL0_fr (tS (up4 (tA (mA A 331) 80 (mF A 770 (342 + 4 * k)) seq (mF A 804 (342 + 4 * k)) 96 18 ((4096 : Int32) - hldA A k)) 54 33818036) (mF A 1029 323) (mF A 769 (342 + 4 * k)) 24) (JL0_out (tS (up4 (fun j => if j = 46 then 96 else tX (mA M 308) 80 (mF M 66 c) seq (mF M 1 (c + 2)) 18 ((4096 : Int32) - hldX M c) j) 54 33818036) (mF M 257 307) (mF M 65 c) 24) hJp)
  have hB331 : ∀ j, isB (mA A 331 j) := fun j => hBA 331 j (rw_ok331 hR).2.2
  have t96 : ∀ j, 34 ≤ j → j < 34 + 20 → tA (mA A 331) 80 (mF M 66 c) seq (mF M 1 (c + 2)) 96 18 ((4096 : Int32) - hldX M c) j = (if j = 46 then 96 else tX (mA M 308) 80 (mF M 66 c) seq (mF M 1 (c + 2)) 18 ((4096 : Int32) - hldX M c) j) := fun j h1 h2 => by
    by_cases cj : j = 46
    · subst cj
      rw [if_pos rfl]
      unfold tA
      rw [up4_o (by omega), up2_o (by omega), up1_o (by omega)]
      rfl
    · rw [if_neg cj]
      have e80 : tA (mA A 331) 80 (mF M 66 c) seq (mF M 1 (c + 2)) 96 18 ((4096 : Int32) - hldX M c) j = tA (mA A 331) 80 (mF M 66 c) seq (mF M 1 (c + 2)) 80 (nI 18) ((4096 : Int32) - hldX M c) j := by
        unfold tA
        refine up4_c fun _ _ _ _ => up2_c fun _ _ => up1_c fun _ => ?_
        unfold up1
        rw [if_neg cj, if_neg cj]
      rw [e80]
      exact tAX (by decide) (fun q => by omega)
  obtain ⟨A', M', T', z1, z2, z3, z4, z5, z6, z7⟩ := sp_ipOut fu hf (len := 24) hJ1 (By_wA hBA (fun _ => isB_up2 (isB_up4 (isB_tA hB331 _ _ _ _ _ _ _) _ _) _ _)) hT2 (by omega) (by omega) (fun j h1 h2 => by
    rw [mA_wA_self, mA_wA_self, e1, e2, e3, e4, p1]
    exact tS_c (fun i h3 h4 => up4_c (fun _ _ _ _ => t96 i h3 (by omega))) h1 h2) (mF A 769 (342 + 4 * k)) 6
  refine ⟨A', M', T', ?_, ?_, z3, z4, z5, (FrA_wA _).tr z6, (FrM_wA _).tr z7⟩
  · rw [m_synOut hR hf, z1, ob_some]
  · unfold fX9_sendPlain
    have hW1 : XW (wA (payX M c 18) 308 (tS (up4 (fun j => if j = 46 then 96 else tX (mA M 308) 80 (mF M 66 c) seq (mF M 1 (c + 2)) 18 ((4096 : Int32) - hldX M c) j) 54 33818036) (mF M 257 307) (mF M 65 c) 24)) := hJp.2.1
    rw [e1] at z2
    rw [gR_ok (xw_ok317 hW), ob_some, xw_g577_317 hW, gI_ok c1, ob_some, rc_ok (xw_ok317 hW), ob_some, x_fillS hW hf hC seq hst, b2_some, rc_ok (xw_ok307 hW1), ob_some, z2, ob_some]
end Plain
