/-! ===== part 9z9: boot, in the reference (written by gen/mk9z9.py) ===== -/
/-- one field of some objects is 0 -/
def ClR (f : Nat) (A A' : Mm) : Prop := mS A' = mS A ∧ mG A' = mG A ∧ mB A' = mB A ∧ mA A' = mA A ∧ (∀ g a, g ≠ f → mF A' g a = mF A g a) ∧ ∀ a, mF A f a = 0 → mF A' f a = 0
section BootM
variable {A A' : Mm} {im F : Nat}
theorem ClR.rf {f : Nat} : ClR f A A := ⟨rfl, rfl, rfl, rfl, fun _ _ _ => rfl, fun _ h => h⟩
theorem ClR.st {f x : Nat} (h : ClR f (sF A f x 0) A') : ClR f A A' ∧ mF A' f x = 0 := by
  obtain ⟨h1, h2, h3, h4, h5, h6⟩ := h
  refine ⟨⟨h1, h2, h3, h4, fun g a n => ?_, fun a e => h6 a ?_⟩, h6 x ?_⟩
  · rw [h5 g a n, mF_sF, if_neg (fun e => n e.1)]
  · rw [mF_sF]
    by_cases q : f = f ∧ a = x
    · rw [if_pos q]
    · rw [if_neg q]; exact e
  · rw [mF_sF, if_pos ⟨rfl, rfl⟩]
theorem c_L380 (fu : Nat) (a7 : Int32) : ∀ n k (A : Mm), RW A → k ≤ 4 → 4 < k + n → ∃ A', fX16_boot_L380 fu n 323 a7 (nI k) A = some (a7, A') ∧ ClR 832 A A' ∧ ∀ i, k ≤ i → i < 4 → mF A' 832 (438 + 3 * i) = 0
  | 0, k, A, _, h1, h2 => absurd h2 (by omega)
  | n + 1, k, A, hR, h1, h2 => by
    rw [fX16_boot_L380]
    by_cases q : 4 ≤ k
    · exact ⟨A, by rw [if_pos (show (4 : Int32) ≤ nI k from nI_le (a := 4) q (by omega))], ClR.rf, fun i a b => by omega⟩
    · have ok := rw_dgO hR k (by omega)
      rw [if_neg (show ¬ (4 : Int32) ≤ nI k from nI_ge (b := 4) (by omega) (by decide)), gR_ok (rw_ok323 hR), ob_some, rw_g1052_323 hR, gB_ok (rw_ok337 hR) (by rw [rw_ln337 hR]; omega) (by omega), ob_some, rw_dgB hR k (by omega), pZ_ok ok (Or.inl rfl), ob_some, nI_1]
      obtain ⟨A', e1, e2, e3⟩ := c_L380 fu a7 n (k + 1) (sF A 832 (438 + 3 * k) 0) hR (by omega) (by omega)
      obtain ⟨e4, e5⟩ := e2.st
      refine ⟨A', e1, e4, fun i a b => ?_⟩
      by_cases z : i = k
      · rw [z]; exact e5
      · exact e3 i (by omega) b
theorem c_L353 (fu : Nat) (a7 : Int32) : ∀ n k (A : Mm), RW A → k ≤ 8 → 8 < k + n → ∃ A', fX16_boot_L353 fu n 323 a7 (nI k) A = fX16_boot_L380 fu fu 323 a7 0 A' ∧ ClR 960 A A' ∧ ∀ i, k ≤ i → i < 8 → mF A' 960 (422 + 2 * i) = 0
  | 0, k, A, _, h1, h2 => absurd h2 (by omega)
  | n + 1, k, A, hR, h1, h2 => by
    rw [fX16_boot_L353]
    by_cases q : 8 ≤ k
    · exact ⟨A, by rw [if_pos (show (8 : Int32) ≤ nI k from nI_le (a := 8) q (by omega))], ClR.rf, fun i a b => by omega⟩
    · have ok := rw_pkO hR k (by omega)
      rw [if_neg (show ¬ (8 : Int32) ≤ nI k from nI_ge (b := 8) (by omega) (by decide)), gR_ok (rw_ok323 hR), ob_some, rw_g1051_323 hR, gB_ok (rw_ok336 hR) (by rw [rw_ln336 hR]; omega) (by omega), ob_some, rw_pkB hR k (by omega), pZ_ok ok (Or.inl rfl), ob_some, nI_1]
      obtain ⟨A', e1, e2, e3⟩ := c_L353 fu a7 n (k + 1) (sF A 960 (422 + 2 * k) 0) hR (by omega) (by omega)
      obtain ⟨e4, e5⟩ := e2.st
      refine ⟨A', e1, e4, fun i a b => ?_⟩
      by_cases z : i = k
      · rw [z]; exact e5
      · exact e3 i (by omega) b
theorem c_L326 (fu : Nat) (a7 : Int32) : ∀ n k (A : Mm), RW A → k ≤ 16 → 16 < k + n → ∃ A', fX16_boot_L326 fu n 323 a7 (nI k) A = fX16_boot_L353 fu fu 323 a7 0 A' ∧ ClR 896 A A' ∧ ∀ i, k ≤ i → i < 16 → mF A' 896 (406 + i) = 0
  | 0, k, A, _, h1, h2 => absurd h2 (by omega)
  | n + 1, k, A, hR, h1, h2 => by
    rw [fX16_boot_L326]
    by_cases q : 16 ≤ k
    · exact ⟨A, by rw [if_pos (show (16 : Int32) ≤ nI k from nI_le (a := 16) q (by omega))], ClR.rf, fun i a b => by omega⟩
    · have ok := rw_enO hR k (by omega)
      rw [if_neg (show ¬ (16 : Int32) ≤ nI k from nI_ge (b := 16) (by omega) (by decide)), gR_ok (rw_ok323 hR), ob_some, rw_g1050_323 hR, gB_ok (rw_ok335 hR) (by rw [rw_ln335 hR]; omega) (by omega), ob_some, rw_enB hR k (by omega), pZ_ok ok (Or.inl rfl), ob_some, nI_1]
      obtain ⟨A', e1, e2, e3⟩ := c_L326 fu a7 n (k + 1) (sF A 896 (406 + k) 0) hR (by omega) (by omega)
      obtain ⟨e4, e5⟩ := e2.st
      refine ⟨A', e1, e4, fun i a b => ?_⟩
      by_cases z : i = k
      · rw [z]; exact e5
      · exact e3 i (by omega) b
theorem c_L299 (fu : Nat) (a7 : Int32) : ∀ n k (A : Mm), RW A → k ≤ 16 → 16 < k + n → ∃ A', fX16_boot_L299 fu n 323 a7 (nI k) A = fX16_boot_L326 fu fu 323 a7 0 A' ∧ ClR 768 A A' ∧ ∀ i, k ≤ i → i < 16 → mF A' 768 (342 + 4 * i) = 0
  | 0, k, A, _, h1, h2 => absurd h2 (by omega)
  | n + 1, k, A, hR, h1, h2 => by
    rw [fX16_boot_L299]
    by_cases q : 16 ≤ k
    · exact ⟨A, by rw [if_pos (show (16 : Int32) ≤ nI k from nI_le (a := 16) q (by omega))], ClR.rf, fun i a b => by omega⟩
    · have ok := rw_cnO hR k (by omega)
      rw [if_neg (show ¬ (16 : Int32) ≤ nI k from nI_ge (b := 16) (by omega) (by decide)), gR_ok (rw_ok323 hR), ob_some, rw_g1055_323 hR, gB_ok (rw_ok339 hR) (by rw [rw_ln339 hR]; omega) (by omega), ob_some, rw_cnB hR k (by omega), pF_ok ok, ob_some, nI_1]
      obtain ⟨A', e1, e2, e3⟩ := c_L299 fu a7 n (k + 1) (sF A 768 (342 + 4 * k) 0) hR (by omega) (by omega)
      obtain ⟨e4, e5⟩ := e2.st
      refine ⟨A', e1, e4, fun i a b => ?_⟩
      by_cases z : i = k
      · rw [z]; exact e5
      · exact e3 i (by omega) b
theorem c_L275 (fu : Nat) (a7 : Int32) : ∀ n k (A : Mm), RW A → k ≤ 8 → 8 < k + n → ∃ A', fX16_boot_L275 fu n 323 a7 (nI k) A = fX16_boot_L299 fu fu 323 a7 0 A' ∧ (mS A' = mS A ∧ mG A' = mG A ∧ mB A' = mB A ∧ mF A' = mF A ∧ (∀ a, a ≠ 330 → mA A' a = mA A a) ∧ ∀ i, mA A 330 i = 0 → mA A' 330 i = 0) ∧ ∀ i, k ≤ i → i < 8 → mA A' 330 i = 0
  | 0, k, A, _, h1, h2 => absurd h2 (by omega)
  | n + 1, k, A, hR, h1, h2 => by
    rw [fX16_boot_L275]
    by_cases q : 8 ≤ k
    · exact ⟨A, by rw [if_pos (show (8 : Int32) ≤ nI k from nI_le (a := 8) q (by omega))], ⟨rfl, rfl, rfl, rfl, fun _ _ => rfl, fun _ h => h⟩, fun i a b => by omega⟩
    · rw [if_neg (show ¬ (8 : Int32) ≤ nI k from nI_ge (b := 8) (by omega) (by decide)), gR_ok (rw_ok323 hR), ob_some, rw_g1041_323 hR, pA_ok (rw_ok330 hR) (by rw [rw_ln330 hR]; omega) (by omega), ob_some, nI_1]
      obtain ⟨A', e1, ⟨d1, d2, d3, d4, d5, d6⟩, e3⟩ := c_L275 fu a7 n (k + 1) (wA A 330 (fun j => if j = k then 0 else mA A 330 j)) hR (by omega) (by omega)
      rw [mA_wA_self] at d6
      refine ⟨A', e1, ⟨d1, d2, d3, d4, fun a ha => (d5 a ha).trans (mA_wA_ne ha), fun i hi => d6 i ?_⟩, fun i a b => ?_⟩
      · show (if i = k then 0 else mA A 330 i) = 0
        by_cases z : i = k
        · rw [if_pos z]
        · rw [if_neg z]; exact hi
      · by_cases z : i = k
        · exact d6 i (by show (if i = k then 0 else mA A 330 i) = 0; rw [if_pos z])
        · exact e3 i (by omega) b
/-- names and numbers of the first k files taken over, and j bytes of the next name -/
def NcR (k j : Nat) (A A' : Mm) : Prop := mS A' = mS A ∧ mG A' = mG A ∧ mB A' = mB A ∧ mF A' = mF A ∧ (∀ a, a < 326 ∨ 329 < a → mA A' a = mA A a) ∧ (∀ i j', i < k → j' < 48 → mA A' 326 (48 * i + j') = mA A 325 (8 + 64 * i + j')) ∧ (∀ j', j' < j → mA A' 326 (48 * k + j') = mA A 325 (8 + 64 * k + j')) ∧ ∀ i, i < k → mA A' 327 i = nI (wN (mA A 325) (8 + 64 * i + 48)) ∧ mA A' 328 i = nI (wN (mA A 325) (8 + 64 * i + 52)) ∧ mA A' 329 i = nI (wN (mA A 325) (8 + 64 * i + 56))
theorem RW_eq (h : RW A) (s : mS A' = mS A) (g : mG A' = mG A) (b : mB A' = mB A) : RW A' := RW_cel h (fun t a _ _ o => by unfold okA at *; rw [s]; exact o) (fun a _ _ => by rw [s]) (fun f a _ _ => by rw [g]) (fun a i _ _ => by rw [b])
theorem b_L120 (fu : Nat) (hfu : 100 ≤ fu) (hR : RW A) (hB : ∀ j, isB (mA A 325 j)) (a7 : Int32) (k110 : Nat → Int32 → Int32 → Mm → Option (Int32 × Mm)) {k : Nat} (hk : k < 64) : ∀ n j A', NcR k j A A' → j ≤ 48 → 48 < j + n → ∃ A2, fX16_boot_L120 fu k110 n 323 a7 (nI k) (nI j) A' = k110 323 a7 (nI (k + 1)) A2 ∧ NcR (k + 1) 0 A A2
  | 0, j, A', _, h1, h2 => absurd h2 (by omega)
  | n + 1, j, A', h, h1, h2 => by
    have h' := h
    obtain ⟨s1, s2, s3, s4, s5, s6, s7, s8⟩ := h'
    have hR1 : RW A' := RW_eq hR s1 s2 s3
    have e64 : (8 : Int32) + (64 : Int32) * nI k = nI (8 + 64 * k) := by
      rw [show (64 : Int32) * nI k = nI (64 * k) from pk_mul 64 k]
      exact nI_add 8 (64 * k)
    have e325 : mA A' 325 = mA A 325 := s5 325 (by decide)
    rw [fX16_boot_L120]
    by_cases q : 48 ≤ j
    · have : j = 48 := by omega
      subst this
      have iw : ∀ (A1 : Mm) (d : Nat), RW A1 → d ≤ 60 → mA A1 325 = mA A 325 → fX16_imageWord fu 323 (nI (8 + 64 * k) + nI d) A1 = some (lN (wN (mA A 325) (8 + 64 * k + d)), A1) := fun A1 d r hd e => by
        rw [nI_add, m_word64 fu (by omega) r (by omega), e]
      have i48 := iw A' 48 hR1 (by decide) e325
      generalize hA1 : wA A' 327 (fun x => if x = k then nI (wN (mA A 325) (8 + 64 * k + 48)) else mA A' 327 x) = A1
      have hR2 : RW A1 := by subst hA1; exact hR1
      have i52 := iw A1 52 hR2 (by decide) (by subst hA1; rw [mA_wA_ne (by decide)]; exact e325)
      generalize hA2 : wA A1 328 (fun x => if x = k then nI (wN (mA A 325) (8 + 64 * k + 52)) else mA A1 328 x) = A2
      have hR3 : RW A2 := by subst hA2; exact hR2
      have i56 := iw A2 56 hR3 (by decide) (by subst hA2; subst hA1; rw [mA_wA_ne (by decide), mA_wA_ne (by decide)]; exact e325)
      refine ⟨wA A2 329 (fun x => if x = k then nI (wN (mA A 325) (8 + 64 * k + 56)) else mA A2 329 x), ?_, ?_⟩
      · rw [if_pos (by decide), gR_ok (rw_ok323 hR1), ob_some, rw_g1038_323 hR1, rc_ok (rw_ok323 hR1), ob_some, e64, show fX16_imageWord fu 323 (nI (8 + 64 * k) + (48 : Int32)) A' = _ from i48, b2_some, lN_i, pA_ok (rw_ok327 hR1) (by rw [rw_ln327 hR1]; omega) (by omega), ob_some, hA1]
        rw [gR_ok (rw_ok323 hR2), ob_some, rw_g1039_323 hR2, rc_ok (rw_ok323 hR2), ob_some, show fX16_imageWord fu 323 (nI (8 + 64 * k) + (52 : Int32)) A1 = _ from i52, b2_some, lN_i, pA_ok (rw_ok328 hR2) (by rw [rw_ln328 hR2]; omega) (by omega), ob_some, hA2]
        rw [gR_ok (rw_ok323 hR3), ob_some, rw_g1040_323 hR3, rc_ok (rw_ok323 hR3), ob_some, show fX16_imageWord fu 323 (nI (8 + 64 * k) + (56 : Int32)) A2 = _ from i56, b2_some, lN_i, pA_ok (rw_ok329 hR3) (by rw [rw_ln329 hR3]; omega) (by omega), ob_some, nI_1]
      · have a26 : mA A2 326 = mA A' 326 := by subst hA2; subst hA1; rw [mA_wA_ne (by decide), mA_wA_ne (by decide)]
        have a27 : mA A2 327 = fun x => if x = k then nI (wN (mA A 325) (8 + 64 * k + 48)) else mA A' 327 x := by subst hA2; subst hA1; rw [mA_wA_ne (by decide), mA_wA_self]
        have a28 : mA A2 328 = fun x => if x = k then nI (wN (mA A 325) (8 + 64 * k + 52)) else mA A' 328 x := by subst hA2; subst hA1; rw [mA_wA_self, mA_wA_ne (by decide)]
        have a29 : mA A2 329 = mA A' 329 := by subst hA2; subst hA1; rw [mA_wA_ne (by decide), mA_wA_ne (by decide)]
        have a0 : ∀ a, a < 326 ∨ 329 < a → mA A2 a = mA A' a := fun a ha => by subst hA2; subst hA1; rw [mA_wA_ne (by omega), mA_wA_ne (by omega)]
        have t1 : mS A2 = mS A' := by subst hA2; subst hA1; rfl
        have t2 : mG A2 = mG A' := by subst hA2; subst hA1; rfl
        have t3 : mB A2 = mB A' := by subst hA2; subst hA1; rfl
        have t4 : mF A2 = mF A' := by subst hA2; subst hA1; rfl
        refine ⟨t1.trans s1, t2.trans s2, t3.trans s3, t4.trans s4, fun a ha => ?_, fun i j' i1 j1 => ?_, fun j' hj => by omega, fun i hi => ?_⟩
        · rw [mA_wA_ne (by omega), a0 a ha]; exact s5 a ha
        · rw [mA_wA_ne (by decide), a26]
          by_cases z : i = k
          · rw [z]; exact s7 j' j1
          · exact s6 i j' (by omega) j1
        · rw [mA_wA_ne (by decide), mA_wA_ne (by decide), mA_wA_self, a27, a28]
          show (if i = k then _ else mA A' 327 i) = _ ∧ (if i = k then _ else mA A' 328 i) = _ ∧ (if i = k then _ else mA A2 329 i) = _
          by_cases z : i = k
          · rw [if_pos z, if_pos z, if_pos z, z]
            exact ⟨rfl, rfl, rfl⟩
          · rw [if_neg z, if_neg z, if_neg z, a29]
            exact s8 i (by omega)
    · have eix : nI (8 + 64 * k) + nI j = nI (8 + 64 * k + j) := nI_add _ _
      have e48 : (48 : Int32) * nI k + nI j = nI (48 * k + j) := by
        rw [show (48 : Int32) * nI k = nI (48 * k) from pk_mul 48 k, nI_add]
      have b := hB (8 + 64 * k + j)
      unfold isB at b
      rw [if_neg (show ¬ (48 : Int32) ≤ nI j from nI_ge (b := 48) (by omega) (by decide)), gR_ok (rw_ok323 hR1), ob_some, rw_g1037_323 hR1, gR_ok (rw_ok323 hR1), ob_some, rw_g1026_323 hR1, e64, eix, gA_ok (rw_ok325 hR1) (by rw [rw_ln325 hR1]; omega) (by omega), ob_some, e325, b, e48, pA_ok (rw_ok326 hR1) (by rw [rw_ln326 hR1]; omega) (by omega), ob_some, nI_1]
      refine b_L120 fu hfu hR hB a7 k110 hk n (j + 1) _ ⟨s1, s2, s3, s4, fun a ha => ?_, fun i j' i1 j1 => ?_, fun j' hj => ?_, fun i hi => ?_⟩ (by omega) (by omega)
      · rw [mA_wA_ne (by omega)]; exact s5 a ha
      · rw [mA_wA_self]
        show (if 48 * i + j' = 48 * k + j then _ else mA A' 326 (48 * i + j')) = _
        rw [if_neg (by omega)]
        exact s6 i j' i1 j1
      · rw [mA_wA_self]
        show (if 48 * k + j' = 48 * k + j then _ else mA A' 326 (48 * k + j')) = _
        by_cases z : j' = j
        · rw [if_pos (by omega), z]
        · rw [if_neg (by omega)]
          exact s7 j' (by omega)
      · rw [mA_wA_ne (by decide), mA_wA_ne (by decide), mA_wA_ne (by decide)]
        exact s8 i hi
/-- what boot leaves in the reference -/
def BtR (F : Nat) (A A' : Mm) : Prop := (mS A' = mS A ∧ mG A' = mG A ∧ mB A' = mB A) ∧ (∀ a, a < 326 ∨ 330 < a → mA A' a = mA A a) ∧ (∀ i j', i < F → j' < 48 → mA A' 326 (48 * i + j') = mA A 325 (8 + 64 * i + j')) ∧ (∀ i, i < F → mA A' 327 i = nI (wN (mA A 325) (8 + 64 * i + 48)) ∧ mA A' 328 i = nI (wN (mA A 325) (8 + 64 * i + 52)) ∧ mA A' 329 i = nI (wN (mA A 325) (8 + 64 * i + 56))) ∧ (∀ i, i < 8 → mA A' 330 i = 0) ∧ (mF A' 1028 323 = 1 ∧ mF A' 1034 323 = 0 ∧ mF A' 1047 323 = 0 ∧ mF A' 1048 323 = 0 ∧ mF A' 1036 323 = 0 ∧ mF A' 1042 323 = 0 ∧ mF A' 1049 323 = 0) ∧ (∀ f, f ≠ 1028 → f ≠ 1034 → f ≠ 1047 → f ≠ 1048 → f ≠ 1036 → f ≠ 1042 → f ≠ 1049 → 1000 < f → mF A' f 323 = mF A f 323) ∧ (∀ i, i < 16 → mF A' 768 (342 + 4 * i) = 0) ∧ (∀ i, i < 16 → mF A' 896 (406 + i) = 0) ∧ (∀ i, i < 8 → mF A' 960 (422 + 2 * i) = 0) ∧ (∀ i, i < 4 → mF A' 832 (438 + 3 * i) = 0)
theorem b_L110 (fu : Nat) (hfu : 100 ≤ fu) (hR : RW A) (hB : ∀ j, isB (mA A 325 j)) (hF : F ≤ 64) : ∀ n k A', NcR k 0 A A' → k ≤ F → F < k + n → ∃ A2, fX16_boot_L110 fu n 323 (nI F) (nI k) A' = some (nI F, A2) ∧ BtR F A A2
  | 0, k, A', _, h1, h2 => absurd h2 (by omega)
  | n + 1, k, A', h, h1, h2 => by
    have h' := h
    obtain ⟨s1, s2, s3, s4, s5, s6, s7, s8⟩ := h'
    have hR1 : RW A' := RW_eq hR s1 s2 s3
    rw [fX16_boot_L110]
    by_cases q : F ≤ k
    · have : k = F := by omega
      subst this
      have o := rw_ok323 hR1
      rw [if_pos (Int32.le_refl _), pZ_ok o (Or.inr rfl), ob_some]
      rw [pF_ok (show okA (sF A' 1028 323 1) 16 323 from o), ob_some]
      rw [pF_ok (show okA (sF (sF A' 1028 323 1) 1034 323 0) 16 323 from o), ob_some]
      rw [pF_ok (show okA (sF (sF (sF A' 1028 323 1) 1034 323 0) 1047 323 0) 16 323 from o), ob_some]
      rw [pF_ok (show okA (sF (sF (sF (sF A' 1028 323 1) 1034 323 0) 1047 323 0) 1048 323 0) 16 323 from o), ob_some]
      rw [pF_ok (show okA (sF (sF (sF (sF (sF A' 1028 323 1) 1034 323 0) 1047 323 0) 1048 323 0) 1036 323 0) 16 323 from o), ob_some]
      rw [pF_ok (show okA (sF (sF (sF (sF (sF (sF A' 1028 323 1) 1034 323 0) 1047 323 0) 1048 323 0) 1036 323 0) 1042 323 0) 16 323 from o), ob_some]
      generalize hZ : sF (sF (sF (sF (sF (sF (sF A' 1028 323 1) 1034 323 0) 1047 323 0) 1048 323 0) 1036 323 0) 1042 323 0) 1049 323 0 = Z
      have RZ : RW Z := by subst hZ; exact hR1
      obtain ⟨A1, x1, ⟨y1, y2, y3, y4, y5, y6⟩, z1⟩ := c_L275 fu (nI k) fu 0 Z RZ (by decide) (by omega)
      have R1 : RW A1 := RW_eq RZ y1 y2 y3
      obtain ⟨A2, x2, ⟨u1, u2, u3, u4, u5, u6⟩, z2⟩ := c_L299 fu (nI k) fu 0 A1 R1 (by decide) (by omega)
      have R2 : RW A2 := RW_eq R1 u1 u2 u3
      obtain ⟨A3, x3, ⟨v1, v2, v3, v4, v5, v6⟩, z3⟩ := c_L326 fu (nI k) fu 0 A2 R2 (by decide) (by omega)
      have R3 : RW A3 := RW_eq R2 v1 v2 v3
      obtain ⟨A4, x4, ⟨w1, w2, w3, w4', w5, w6⟩, z4⟩ := c_L353 fu (nI k) fu 0 A3 R3 (by decide) (by omega)
      have R4 : RW A4 := RW_eq R3 w1 w2 w3
      obtain ⟨A5, x5, ⟨t1, t2, t3, t4, t5, t6⟩, z5⟩ := c_L380 fu (nI k) fu 0 A4 R4 (by decide) (by omega)
      have SZ : mS Z = mS A' ∧ mG Z = mG A' ∧ mB Z = mB A' ∧ mA Z = mA A' := by subst hZ; exact ⟨rfl, rfl, rfl, rfl⟩
      have aZ : mA A5 = mA A1 := by rw [t4, w4', v4, u4]
      have fZ : ∀ f, 1000 < f → mF A5 f 323 = mF Z f 323 := fun f hf => by
        rw [t5 f 323 (by omega), w5 f 323 (by omega), v5 f 323 (by omega), u5 f 323 (by omega), y4]
      refine ⟨A5, x1.trans (x2.trans (x3.trans (x4.trans x5))), ⟨?_, ?_, ?_⟩, fun a ha => ?_, fun i j' i1 j1 => ?_, fun i hi => ?_, fun i hi => ?_, ?_, fun f n1 n2 n3 n4 n5 n6 n7 n8 => ?_, fun i hi => ?_, fun i hi => ?_, fun i hi => ?_, fun i hi => z5 i (Nat.zero_le _) hi⟩
      · rw [t1, w1, v1, u1, y1, SZ.1, s1]
      · rw [t2, w2, v2, u2, y2, SZ.2.1, s2]
      · rw [t3, w3, v3, u3, y3, SZ.2.2.1, s3]
      · rw [aZ, y5 a (by omega), SZ.2.2.2]; exact s5 a (by omega)
      · rw [aZ, y5 326 (by decide), SZ.2.2.2]; exact s6 i j' i1 j1
      · rw [aZ, y5 327 (by decide), y5 328 (by decide), y5 329 (by decide), SZ.2.2.2]; exact s8 i hi
      · rw [aZ]; exact z1 i (Nat.zero_le _) hi
      · rw [fZ 1028 (by decide), fZ 1034 (by decide), fZ 1047 (by decide), fZ 1048 (by decide), fZ 1036 (by decide), fZ 1042 (by decide), fZ 1049 (by decide), ← hZ]
        refine ⟨?_, ?_, ?_, ?_, ?_, ?_, ?_⟩
        all_goals
          repeat (first | rw [mF_sF, if_pos ⟨rfl, rfl⟩] | rw [mF_sF, if_neg (by omega)])
      · rw [fZ f n8, ← hZ, mF_sF, if_neg (by omega), mF_sF, if_neg (by omega), mF_sF, if_neg (by omega), mF_sF, if_neg (by omega), mF_sF, if_neg (by omega), mF_sF, if_neg (by omega), mF_sF, if_neg (by omega), s4]
      · rw [t5 768 _ (by decide), w5 768 _ (by decide), v5 768 _ (by decide)]; exact z2 i (Nat.zero_le _) hi
      · rw [t5 896 _ (by decide), w5 896 _ (by decide)]; exact z3 i (Nat.zero_le _) hi
      · rw [t5 960 _ (by decide)]; exact z4 i (Nat.zero_le _) hi
    · rw [if_neg (nI_ge (by omega) (by omega))]
      obtain ⟨A2, e1, e2⟩ := b_L120 (A := A) fu hfu hR hB (nI F) (fun b0 b7 b8 M => fX16_boot_L110 fu n b0 b7 b8 M) (k := k) (by omega) fu 0 A' h (by omega) (by omega)
      obtain ⟨A3, e3, e4⟩ := b_L110 fu hfu hR hB hF n (k + 1) A2 e2 (by omega) (by omega)
      exact ⟨A3, e1.trans e3, e4⟩
end BootM
