/-! ===== part 98p: the files, the one that is asked for ===== -/
/-- the files of both: F of them, entries in ek -/
def FI (F ek im : Nat) (A M : Mm) : Prop := (F ≤ 64) ∧ (mF A 1035 323 = nI F) ∧ (mF M 513 301 = nI F) ∧ (mG M 514 301 = some ek) ∧ (okA M 100 ek) ∧ (64 * F ≤ sLen (mS M) ek) ∧ (sLen (mS M) ek ≤ 65536) ∧ (∀ i j, i < F → j < 48 → mA A 326 (48 * i + j) = mA M ek (64 * i + j)) ∧ (∀ i, i < F → mA A 327 i = w4 (mA M ek) (64 * i + 48) ∧ mA A 328 i = w4 (mA M ek) (64 * i + 52) ∧ mA A 329 i = w4 (mA M ek) (64 * i + 56)) ∧ (∀ i, i < F → ∃ p l, mA A 327 i = nI p ∧ mA A 328 i = nI l ∧ p + l ≤ im) ∧ (∀ i, i < F → ∃ z, 1 ≤ z ∧ z ≤ 47 ∧ (∀ j, j < z → ∃ x, 33 ≤ x ∧ x ≤ 126 ∧ mA M ek (64 * i + j) = nI x) ∧ (∀ j, z ≤ j → j < 48 → mA M ek (64 * i + j) = 0)) ∧ (ek ≠ 308 ∧ sTy (mS M) (ek - 1) ≠ 6 ∧ sTy (mS M) (ek - 1) ≠ 2 ∧ sTy (mS M) (ek - 1) ≠ 1 ∧ sTy (mS M) (ek - 1) ≠ 0 ∧ ek ≠ 320 ∧ ek ≠ 321) ∧ True
theorem FI.le {F ek im : Nat} {A M : Mm} (h : FI F ek im A M) : F ≤ 64 := h.1
theorem FI.ca {F ek im : Nat} {A M : Mm} (h : FI F ek im A M) : mF A 1035 323 = nI F := h.2.1
theorem FI.cm {F ek im : Nat} {A M : Mm} (h : FI F ek im A M) : mF M 513 301 = nI F := h.2.2.1
theorem FI.ge {F ek im : Nat} {A M : Mm} (h : FI F ek im A M) : mG M 514 301 = some ek := h.2.2.2.1
theorem FI.oe {F ek im : Nat} {A M : Mm} (h : FI F ek im A M) : okA M 100 ek := h.2.2.2.2.1
theorem FI.l1 {F ek im : Nat} {A M : Mm} (h : FI F ek im A M) : 64 * F ≤ sLen (mS M) ek := h.2.2.2.2.2.1
theorem FI.l2 {F ek im : Nat} {A M : Mm} (h : FI F ek im A M) : sLen (mS M) ek ≤ 65536 := h.2.2.2.2.2.2.1
theorem FI.nm {F ek im : Nat} {A M : Mm} (h : FI F ek im A M) : ∀ i j, i < F → j < 48 → mA A 326 (48 * i + j) = mA M ek (64 * i + j) := h.2.2.2.2.2.2.2.1
theorem FI.nu {F ek im : Nat} {A M : Mm} (h : FI F ek im A M) : ∀ i, i < F → mA A 327 i = w4 (mA M ek) (64 * i + 48) ∧ mA A 328 i = w4 (mA M ek) (64 * i + 52) ∧ mA A 329 i = w4 (mA M ek) (64 * i + 56) := h.2.2.2.2.2.2.2.2.1
theorem FI.pl {F ek im : Nat} {A M : Mm} (h : FI F ek im A M) : ∀ i, i < F → ∃ p l, mA A 327 i = nI p ∧ mA A 328 i = nI l ∧ p + l ≤ im := h.2.2.2.2.2.2.2.2.2.1
theorem FI.na {F ek im : Nat} {A M : Mm} (h : FI F ek im A M) : ∀ i, i < F → ∃ z, 1 ≤ z ∧ z ≤ 47 ∧ (∀ j, j < z → ∃ x, 33 ≤ x ∧ x ≤ 126 ∧ mA M ek (64 * i + j) = nI x) ∧ (∀ j, z ≤ j → j < 48 → mA M ek (64 * i + j) = 0) := h.2.2.2.2.2.2.2.2.2.2.1
theorem FI.sp {F ek im : Nat} {A M : Mm} (h : FI F ek im A M) : ek ≠ 308 ∧ sTy (mS M) (ek - 1) ≠ 6 ∧ sTy (mS M) (ek - 1) ≠ 2 ∧ sTy (mS M) (ek - 1) ≠ 1 ∧ sTy (mS M) (ek - 1) ≠ 0 ∧ ek ≠ 320 ∧ ek ≠ 321 := h.2.2.2.2.2.2.2.2.2.2.2.1
theorem FI.mk {F ek im : Nat} {A M : Mm} (le_ : F ≤ 64) (ca_ : mF A 1035 323 = nI F) (cm_ : mF M 513 301 = nI F) (ge_ : mG M 514 301 = some ek) (oe_ : okA M 100 ek) (l1_ : 64 * F ≤ sLen (mS M) ek) (l2_ : sLen (mS M) ek ≤ 65536) (nm_ : ∀ i j, i < F → j < 48 → mA A 326 (48 * i + j) = mA M ek (64 * i + j)) (nu_ : ∀ i, i < F → mA A 327 i = w4 (mA M ek) (64 * i + 48) ∧ mA A 328 i = w4 (mA M ek) (64 * i + 52) ∧ mA A 329 i = w4 (mA M ek) (64 * i + 56)) (pl_ : ∀ i, i < F → ∃ p l, mA A 327 i = nI p ∧ mA A 328 i = nI l ∧ p + l ≤ im) (na_ : ∀ i, i < F → ∃ z, 1 ≤ z ∧ z ≤ 47 ∧ (∀ j, j < z → ∃ x, 33 ≤ x ∧ x ≤ 126 ∧ mA M ek (64 * i + j) = nI x) ∧ (∀ j, z ≤ j → j < 48 → mA M ek (64 * i + j) = 0)) (sp_ : ek ≠ 308 ∧ sTy (mS M) (ek - 1) ≠ 6 ∧ sTy (mS M) (ek - 1) ≠ 2 ∧ sTy (mS M) (ek - 1) ≠ 1 ∧ sTy (mS M) (ek - 1) ≠ 0 ∧ ek ≠ 320 ∧ ek ≠ 321) : FI F ek im A M := ⟨le_, ca_, cm_, ge_, oe_, l1_, l2_, nm_, nu_, pl_, na_, sp_, trivial⟩
section Find
variable {A M : Mm} {F ek im L : Nat} {P : Nat → Nat}
/-- the name of file i is the path -/
abbrev mtj (M : Mm) (ek L : Nat) (P : Nat → Nat) (i j : Nat) : Prop := ∀ x, x < j → mA M ek (64 * i + x) = (if x < L then nI (P x) else (0 : Int32))
abbrev mtch (M : Mm) (ek L : Nat) (P : Nat → Nat) (i : Nat) : Prop := mtj M ek L P i 48
theorem m_name (fu : Nat) (hfu : 5000 ≤ fu) (hR : RW A) (hf : FI F ek im A M) (hp : PT A M L L P) (hL : L ≤ 47) {i : Nat} (hi : i < F) (k2 : Nat → Int32 → Mm → Option (Int32 × Mm)) : fX16_found_L23 fu k2 fu 323 (nI i) 1 0 A = if mtch M ek L P i then some (nI i, A) else k2 323 (nI (i + 1)) A := by
  have o := rw_ok323 hR
  have hF := hf.le
  have E : ∀ x, x < 48 → mA A 326 (48 * i + x) = mA M ek (64 * i + x) := fun x hx => hf.nm i x hi hx
  have := lp (fun m j => fX16_found_L23 fu k2 m 323 (nI i) (if mtj M ek L P i (j) then (1 : Int32) else 0) (nI j) A) (i := 0) (k := 48) (by decide) (fun m j _ hj => by
    rw [fX16_found_L23, if_neg (show ¬ (48 : Int32) ≤ nI j from nI_ge (b := 48) hj (by decide)), if10]
    unfold fX16_found_L62 fX16_found_L69 fX16_found_L70
    rw [nI_1]
    by_cases q : mtj M ek L P i j
    · rw [if_pos q, gR_ok o, ob_some, rw_g1037_323 hR, show (48 : Int32) * nI i + nI j = nI (48 * i + j) by rw [show (48 : Int32) = nI 48 from rfl, pk_mul, nI_add], gA_ok (rw_ok326 hR) (by rw [rw_ln326 hR]; omega) (by omega), ob_some, gI_ok o, ob_some, hp.1, E j hj]
      have fin : ∀ v : Int32, v = (if j < L then nI (P j) else 0) → (if mA M ek (64 * i + j) = v then fX16_found_L23 fu k2 m 323 (nI i) 1 (nI (j + 1)) A else fX16_found_L23 fu k2 m 323 (nI i) 0 (nI (j + 1)) A) = fX16_found_L23 fu k2 m 323 (nI i) (if mtj M ek L P i (j + 1) then (1 : Int32) else 0) (nI (j + 1)) A := fun v hv => by
        by_cases z : mA M ek (64 * i + j) = v
        · rw [if_pos z, if_pos (fun x hx => by
            by_cases y : x = j
            · rw [y, z, hv]
            · exact q x (by omega))]
        · rw [if_neg z, if_neg (fun e => z ((e j (by omega)).trans hv.symm))]
      by_cases q2 : j < L
      · rw [if_neg (nI_ge q2 (by omega)), gR_ok o, ob_some, rw_g1082_323 hR, gA_ok (rw_ok341 hR) (by rw [rw_ln341 hR]; omega) (by omega), ob_some, (hp.2.2.1 j q2).2.2]
        exact fin _ (by rw [if_pos q2])
      · rw [if_pos (nI_le (by omega) (by omega))]
        exact fin _ (by rw [if_neg q2])
    · rw [if_neg q, if_neg (fun e => q (fun x hx => e x (by omega)))]) (fu - 48)
  rw [show fu - 48 + (48 - 0) = fu by omega] at this
  refine Eq.trans ?_ (this.trans ?_)
  · show _ = fX16_found_L23 fu k2 fu 323 (nI i) (if mtj M ek L P i (0) then (1 : Int32) else 0) (nI 0) A
    rw [if_pos (fun x hx => by omega)]
    rfl
  · show fX16_found_L23 fu k2 (fu - 48) 323 (nI i) (if mtj M ek L P i (48) then (1 : Int32) else 0) (nI 48) A = _
    rw [show fu - 48 = (fu - 49) + 1 by omega, fX16_found_L23, if_pos (show (48 : Int32) ≤ nI 48 by decide), if10, nI_1]
theorem u8_eq {v : Int32} (h : isB v) {n : Nat} (hn : n < 128) : u8 v = nI n ↔ v = nI n := by
  rw [isB_n h hn, u8_bv, nI_eq (by have := bv_lt v; omega) (by omega)]
theorem x_name (fu : Nat) (hfu : 5000 ≤ fu) (hW : XW M) (hB : By M) (hf : FI F ek im A M) (hp : PT A M L L P) (hL : L ≤ 47) {i : Nat} (hi : i < F) (k2 : Nat → Option Nat → Int32 → Int32 → Mm → Option (Int32 × Mm)) : fX8_find_L13 fu k2 fu 301 (some 321) (nI L) (nI i) 0 M = if mtch M ek L P i then some (nI i, M) else k2 301 (some 321) (nI L) (nI (i + 1)) M := by
  have o := xw_ok301 hW
  have hF := hf.le
  have l1 := hf.l1
  have l2 := hf.l2
  have := lpAll (fun m j => fX8_find_L13 fu k2 m 301 (some 321) (nI L) (nI i) (nI j) M) 48 (fun j => mA M ek (64 * i + j) = (if j < L then nI (P j) else 0)) (some (nI i, M)) (k2 301 (some 321) (nI L) (nI (i + 1)) M) (fun m j hj hq => by
    rw [fX8_find_L13, if_neg (show ¬ (48 : Int32) ≤ nI j from nI_ge (b := 48) hj (by decide)), gR_ok o, ob_some, hf.ge, show nI i * (64 : Int32) + nI j = nI (64 * i + j) by rw [show (64 : Int32) = nI 64 from rfl, pk_mul, nI_add, Nat.mul_comm], x_one fu hf.oe (by omega) (by omega), b2_some]
    unfold fX8_find_L50
    rw [nI_1]
    by_cases q2 : j < L
    · rw [if_pos q2] at hq
      rw [if_neg (nI_ge q2 (by omega)), x_one fu (xw_ok321 hW) (by rw [xw_ln321 hW]; decide) (by rw [xw_ln321 hW]; omega), b2_some, hp.2.2.2 j q2 hj, hq, if_pos rfl]
    · rw [if_neg q2] at hq
      rw [if_pos (nI_le (by omega) (by omega)), hq, if_pos (by decide)]) (fun m j hj hq => by
    rw [fX8_find_L13, if_neg (show ¬ (48 : Int32) ≤ nI j from nI_ge (b := 48) hj (by decide)), gR_ok o, ob_some, hf.ge, show nI i * (64 : Int32) + nI j = nI (64 * i + j) by rw [show (64 : Int32) = nI 64 from rfl, pk_mul, nI_add, Nat.mul_comm], x_one fu hf.oe (by omega) (by omega), b2_some]
    unfold fX8_find_L50 fX8_find_L59
    have hb := hB ek (64 * i + j) hf.oe.2.2
    have n48 : ¬ nI j = (48 : Int32) := fun e => by have := (nI_eq (b := 48) (by omega) (by decide)).mp e; omega
    rw [nI_1, nI_1]
    by_cases q2 : j < L
    · obtain ⟨p1, p2, p3⟩ := hp.2.2.1 j q2
      rw [if_pos q2] at hq
      rw [if_neg (nI_ge q2 (by omega)), x_one fu (xw_ok321 hW) (by rw [xw_ln321 hW]; decide) (by rw [xw_ln321 hW]; omega), b2_some, hp.2.2.2 j q2 hj, (u8_eq (isB_nI p2) p2).mpr rfl, if_neg (fun e => hq ((u8_eq hb p2).mp e)), if_neg n48]
    · rw [if_neg q2] at hq
      rw [if_pos (nI_le (by omega) (by omega)), if_neg (show ¬ u8 (mA M ek (64 * i + j)) = (0 : Int32) from fun e => hq ((u8_eq (n := 0) hb (by decide)).mp e)), if_neg n48]) (fun m => by
    rw [fX8_find_L13, if_pos (show (48 : Int32) ≤ nI 48 by decide)]
    unfold fX8_find_L59
    rw [if_pos (show nI 48 = (48 : Int32) from rfl)]) (fu := fu) (by omega)
  rcases this with ⟨y1, y2⟩ | ⟨y1, y2⟩
  · rw [if_pos y1]; exact y2
  · rw [if_neg y1]; exact y2
/-- the file that is asked for, in both -/
theorem sp_named (fu : Nat) (hfu : 5000 ≤ fu) (hR : RW A) (hW : XW M) (hB : By M) (hf : FI F ek im A M) (hp : PT A M L L P) (hL5 : L ≤ 5000) :
    ∃ r, r ≤ F ∧ fX16_found fu 323 A = some (if r < F then nI r else -1, A) ∧ (if L ≤ 47 then fX8_find fu 301 (some 321) (nI L) M else some (-1, M)) = some (if r < F then nI r else -1, M) ∧ (r < F → L ≤ 47 ∧ mtch M ek L P r) := by
  have o := rw_ok323 hR
  have hF := hf.le
  by_cases q : L ≤ 47
  · obtain ⟨r, hr⟩ := Stop.ex (fun i => ¬ mtch M ek L P i) (i := 0) (n := F) (by omega)
    have e0 : (fX16_found fu 323 A) = (if r < F then some (nI r, A) else some (-1, A)) := by
      unfold fX16_found
      exact lpStop (fun m i => fX16_found_L2 fu m 323 (nI i) A) hr (fun i => if i < F then some (nI i, A) else some (-1, A)) (fun m x _ g2 hq => by
        rw [fX16_found_L2, gI_ok o, ob_some, hf.ca, if_neg (nI_ge g2 (by omega)), gI_ok o, ob_some, hp.1, if_neg (show ¬ (48 : Int32) ≤ nI L from nI_ge (b := 48) (by omega) (by decide)), m_name fu hfu hR hf hp q g2, if_neg hq]) (fun m x _ g2 hq => by
        rw [fX16_found_L2, gI_ok o, ob_some, hf.ca, if_neg (nI_ge g2 (by omega)), gI_ok o, ob_some, hp.1, if_neg (show ¬ (48 : Int32) ≤ nI L from nI_ge (b := 48) (by omega) (by decide)), m_name fu hfu hR hf hp q g2, if_pos (Classical.not_not.mp hq), if_pos g2]) (fun m => by
        rw [fX16_found_L2, gI_ok o, ob_some, hf.ca, if_pos (nI_le (Nat.le_refl _) (by omega)), if_neg (by omega)]) (fu := fu) (by omega)
    have e1 : fX8_find fu 301 (some 321) (nI L) M = (if r < F then some (nI r, M) else some (-1, M)) := by
      unfold fX8_find
      exact lpStop (fun m i => fX8_find_L2 fu m 301 (some 321) (nI L) (nI i) M) hr (fun i => if i < F then some (nI i, M) else some (-1, M)) (fun m x _ g2 hq => by
        rw [fX8_find_L2, gI_ok (xw_ok301 hW), ob_some, hf.cm, if_neg (nI_ge g2 (by omega)), x_name fu hfu hW hB hf hp q g2, if_neg hq]) (fun m x _ g2 hq => by
        rw [fX8_find_L2, gI_ok (xw_ok301 hW), ob_some, hf.cm, if_neg (nI_ge g2 (by omega)), x_name fu hfu hW hB hf hp q g2, if_pos (Classical.not_not.mp hq), if_pos g2]) (fun m => by
        rw [fX8_find_L2, gI_ok (xw_ok301 hW), ob_some, hf.cm, if_pos (nI_le (Nat.le_refl _) (by omega)), if_neg (by omega)]) (fu := fu) (by omega)
    obtain ⟨r1, r2, r3, r4⟩ := hr
    refine ⟨r, r2, ?_, ?_, fun e => ⟨q, Classical.not_not.mp (r4 e)⟩⟩
    · rw [e0]; split <;> rfl
    · rw [if_pos q, e1]; split <;> rfl
  · refine ⟨F, Nat.le_refl _, ?_, ?_, fun e => by omega⟩
    · unfold fX16_found
      rw [if_neg (by omega), show fu = (fu - 1) + 1 by omega, fX16_found_L2, gI_ok o, ob_some, hf.ca]
      by_cases z : F = 0
      · rw [if_pos (by rw [z]; decide)]
      · rw [if_neg (show ¬ nI F ≤ 0 from nI_ge (a := 0) (b := F) (by omega) (by omega)), gI_ok o, ob_some, hp.1, if_pos (show (48 : Int32) ≤ nI L from nI_le (a := 48) (by omega) (by omega))]
    · rw [if_neg q, if_neg (by omega)]
end Find
