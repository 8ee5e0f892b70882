/-! ===== part 99e: a head is read, in both ===== -/
section Read
variable {A M A' M' A'' M'' : Mm}
/-- work on a connection, with requests -/
def PWa (k f a : Nat) : Prop := PCa k f a ∨ (1066 ≤ f ∧ a = 323)
def QWa (k a : Nat) : Prop := QCa k a ∨ a = 340 ∨ a = 341
def PWx (c t f a : Nat) : Prop := PCx c t f a ∨ (448 ≤ f ∧ f < 512 ∧ a = 319)
def QWx (c u t s a : Nat) : Prop := QCx c u t s a ∨ a = 320 ∨ a = 321
def FWA (k : Nat) (A A' : Mm) : Prop := FB (PWa k) (QWa k) A A'
def FWM (c : Nat) (M M' : Mm) : Prop := FM (PWx c) noG BLx (QWx c) M M'
theorem FWA.tr {k : Nat} (h : FWA k A A') (g : FWA k A' A'') : FWA k A A'' := FB.tr h g
theorem FWM.tr {c : Nat} (h : FWM c M M') (g : FWM c M' M'') : FWM c M M'' := FM.tr h g
theorem FWA.rf {k : Nat} : FWA k A A := FB.rf
theorem FWM.rf {c : Nat} : FWM c M M := FM.rf
theorem FCA.wa {k : Nat} (h : FCA k A A') : FWA k A A' := FB.mono (fun _ _ q => Or.inl q) (fun _ q => Or.inl q) h
theorem FCM.wm {c : Nat} (h : FCM c M M') : FWM c M M' := FM.mono (fun _ _ _ q => Or.inl q) (fun _ _ q => q) (fun _ q => q) (fun _ _ _ _ q => Or.inl q) h
theorem FQA.wa {k : Nat} (h : FQA A A') : FWA k A A' := ⟨h.1, h.2.1, h.2.2.1, fun f a n => h.2.2.2.1 f a (fun e => n (Or.inr e)), fun a n => h.2.2.2.2 a (fun e => n (Or.inr (Or.inl e))) (fun e => n (Or.inr (Or.inr e))), by rw [h.2.2.2.1 1049 323 (by omega)]; exact Int32.le_refl _⟩
theorem FQM.wm {c : Nat} (h : FQM M M') : FWM c M M' := ⟨by rw [h.1]; exact Nat.le_refl _, fun a _ => by rw [h.1]; exact ⟨rfl, rfl⟩, fun f a _ _ => by rw [h.2.1], fun a _ _ => by rw [h.2.2.1], fun f a _ n => h.2.2.2.1 f a (fun e => n (Or.inr e)), fun a _ n => h.2.2.2.2 a (fun e => n (Or.inr (Or.inl e))) (fun e => n (Or.inr (Or.inr e)))⟩
theorem FY.wa {k : Nat} (h : FY k A A') : FWA k A A' := ⟨h.1, h.2.1, h.2.2.1, fun f a n => h.2.2.2.1 f a (fun e => n (by unfold PWa PCa; omega)), fun a n => h.2.2.2.2 a (fun e => n (by unfold QWa QCa; omega)) (fun e => n (by unfold QWa QCa; omega)), by rw [h.2.2.2.1 1049 323 (by omega)]; exact Int32.le_refl _⟩
theorem FZ.wm {c : Nat} (h : FZ c M M') : FWM c M M' := ⟨by rw [h.1]; exact Nat.le_refl _, fun a _ => by rw [h.1]; exact ⟨rfl, rfl⟩, fun f a _ _ => by rw [h.2.1], fun a _ _ => by rw [h.2.2.1], fun f a _ n => h.2.2.2.1 f a (fun e => n (by unfold PWx PCx; omega)), fun a _ n => h.2.2.2.2 a (fun e => n (by unfold QWx QCx; omega)) (fun e => n (by unfold QWx QCx; omega))⟩
theorem FWM.ok {c t a : Nat} (h : FWM c M M') (g : okA M t a) : okA M' t a := okA_mono h.1 h.2.1 g
/-- the files under work on a connection -/
theorem FI_w {F ek im k c : Nat} (hf : FI F ek im A M) (hC : CnO M c) (hW : XW M) (hk : k < 16) (fA : FWA k A A') (fM : FWM c M M') : FI F ek im A' M' := by
  obtain ⟨s1, s2, s3, s4, s5, s6, s7⟩ := hf.sp
  obtain ⟨c1, c2, c3, c4, c5, c6, c7, c8, c9, c10, c11, c12, c13, c14⟩ := hC
  have oe := hf.oe
  have lt := oe.2.1
  obtain ⟨ty, ln⟩ := fM.2.1 ek lt
  have ty1 := (fM.2.1 (ek - 1) (by omega)).1
  have e : mA M' ek = mA M ek := by
    refine fM.2.2.2.2.2 ek lt ?_
    have q := n100 hW oe
    have q1 : ek ≠ c + 1 := fun e => s4 (by rw [e]; exact c1.2.2)
    have q2 : ek ≠ c + 3 := fun e => s5 (by rw [e]; exact c7.2.2)
    have q3 := ok_ne oe c12 (by decide)
    have q4 := ok_ne oe (xw_ok305 hW) (by decide)
    unfold QWx QCx QLx
    omega
  have a : ∀ x, x < 330 → mA A' x = mA A x := fun x hx => fA.2.2.2.2.1 x (by unfold QWa QCa QL; omega)
  have o301 := xw_ok301 hW
  have p301 : ∀ f, 512 ≤ f → f < 640 → mF M' f 301 = mF M f 301 := fun f h1 h2 => by
    refine fM.2.2.2.2.1 f 301 o301.2.1 ?_
    have q1 := ok_ne o301 c1 (by decide)
    have q2 := ok_ne o301 c7 (by decide)
    have q3 := ok_ne o301 c14 (by decide)
    have q4 : sTy (mS M) 301 ≠ 6 := by rw [o301.2.2]; decide
    unfold PWx PCx PLx
    omega
  refine FI.mk hf.le ?_ ?_ ?_ ?_ ?_ ?_ ?_ ?_ ?_ ?_ ?_
  · rw [fA.2.2.2.1 _ _ (by unfold PWa PCa PL; omega)]; exact hf.ca
  · rw [p301 _ (by decide) (by decide)]; exact hf.cm
  · rw [fM.2.2.1 _ _ o301.2.1 (fun e => e)]; exact hf.ge
  · exact fM.ok oe
  · rw [ln]; exact hf.l1
  · rw [ln]; exact hf.l2
  · rw [e, a 326 (by decide)]; exact hf.nm
  · rw [e, a 327 (by decide), a 328 (by decide), a 329 (by decide)]; exact hf.nu
  · rw [a 327 (by decide), a 328 (by decide)]; exact hf.pl
  · rw [e]; exact hf.na
  · rw [ty1]; exact hf.sp
/-- the head is copied, in the reference -/
theorem m_copyH (fu : Nat) {k n : Nat} (hk : k < 16) (hR : RW A) (hB : By A) (hn : n ≤ 4096) (hfu : 5000 ≤ fu) :
    ∃ m, fX16_answer_L7 fu fu 323 (some (342 + 4 * k)) (nI n) 0 A = fX16_answer_L7 fu (m + 1) 323 (some (342 + 4 * k)) (nI n) (nI n) (wA A 340 (fun j => if j < n then mA A (344 + 4 * k) j else mA A 340 j)) := by
  have hB1 : ∀ j, isB (mA A (344 + 4 * k) j) := fun j => hB _ j (rw_cnR hR k hk).2.2
  have H := lp (fun m i => fX16_answer_L7 fu m 323 (some (342 + 4 * k)) (nI n) (nI i) (wA A 340 (fun j => if j < i then mA A (344 + 4 * k) j else mA A 340 j))) (i := 0) (k := n) (Nat.zero_le _) (fun m i _ hi => by
    have hR' : RW (wA A 340 (fun j => if j < i then mA A (344 + 4 * k) j else mA A 340 j)) := hR
    show fX16_answer_L7 fu (m + 1) _ _ _ _ _ = fX16_answer_L7 fu m _ _ _ _ _
    rw [fX16_answer_L7, if_neg (nI_ge hi (by omega)), gR_ok (rw_ok323 hR'), ob_some, rw_g1065_323 hR', gR_ok (rw_cnO hR' k hk), ob_some, rw_cnRg hR' k hk, gA_ok (rw_cnR hR' k hk) (by rw [rw_cnRl hR' k hk]; omega) (by omega), ob_some, mA_wA_ne (by omega), (show Int8.toInt32 (Int32.toInt8 (mA A (344 + 4 * k) i)) = mA A (344 + 4 * k) i from hB1 i), pA_ok (rw_ok340 hR') (by rw [rw_ln340 hR']; omega) (by omega), ob_some, nI_1, wA_wA, mA_wA_self]
    congr 2
    funext j
    by_cases e : j = i
    · rw [if_pos e, if_pos (by omega), e]
    · rw [if_neg e]
      by_cases e2 : j < i
      · rw [if_pos e2, if_pos (by omega)]
      · rw [if_neg e2, if_neg (by omega)])
  refine ⟨fu - n - 1, ?_⟩
  have h2 := H (fu - n)
  simp only [Nat.sub_zero, Nat.not_lt_zero, if_false] at h2
  rw [show fu - n + n = fu by omega] at h2
  rw [show fu - n - 1 + 1 = fu - n by omega, ← h2]
  rw [show (fun j => mA A 340 j) = mA A 340 from rfl, wA_mA]
  rfl
end Read
