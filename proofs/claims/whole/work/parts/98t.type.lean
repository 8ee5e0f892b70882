/-! ===== part 98t: types and marks, in both ===== -/
theorem ph_same (fu : Nat) (a : Int32) (M : Mm) : fX16_phrase fu a M = fX7_phrase fu a M := rfl
section Typ
variable {A M : Mm} {F ek im L : Nat} {P : Nat → Nat}
/-- the path ends with a text -/
abbrev endP (L : Nat) (P : Nat → Nat) (t : Nat) : Prop := txL t ≤ L ∧ ∀ i, i < txL t → P (L - txL t + i) = txC t i
theorem m_ends (fu : Nat) (hfu : 5000 ≤ fu) (hR : RW A) (hf : FI F ek im A M) (hp : PT A M L L P) (hL : L ≤ 47) {r : Nat} (hr : r < F) (hm : mtch M ek L P r) {t : Nat} (ht : t < 50) : fX16_endsWith fu 323 (nI r) (some t) A = some (if endP L P t then 1 else 0, A) := by
  have o := rw_ok323 hR
  have hF := hf.le
  obtain ⟨hb, hc⟩ := tx_ok t ht
  have nm : ∀ j, j < 48 → mA A 326 (48 * r + j) = (if j < L then nI (P j) else 0) := fun j hj => (hf.nm r j hr hj).trans (hm j hj)
  have e48 : ∀ j, (48 : Int32) * nI r + nI j = nI (48 * r + j) := fun j => by rw [show (48 : Int32) = nI 48 from rfl, pk_mul, nI_add]
  -- where the name ends
  have l1 : fX16_endsWith fu 323 (nI r) (some t) A = fX16_endsWith_L28 fu 323 (nI r) (some t) (nI L) A := by
    unfold fX16_endsWith
    have := lp (fun m j => fX16_endsWith_L2 fu m 323 (nI r) (some t) (nI j) A) (i := 0) (k := L) (by omega) (fun m j _ hj => by
      obtain ⟨p1, p2, -⟩ := hp.2.2.1 j hj
      rw [fX16_endsWith_L2, if_neg (show ¬ (48 : Int32) ≤ nI j from nI_ge (b := 48) (by omega) (by decide)), gR_ok o, ob_some, rw_g1037_323 hR, e48, gA_ok (rw_ok326 hR) (by rw [rw_ln326 hR]; omega) (by omega), ob_some, nm j (by omega), if_pos hj, if_neg (fun z => by have := (nI_eq (b := 0) (by omega) (by decide)).mp z; omega), nI_1]) (fu - L)
    rw [show fu - L + (L - 0) = fu by omega] at this
    refine Eq.trans this ?_
    show fX16_endsWith_L2 fu (fu - L) 323 (nI r) (some t) (nI L) A = _
    rw [show fu - L = (fu - L - 1) + 1 by omega, fX16_endsWith_L2, if_neg (show ¬ (48 : Int32) ≤ nI L from nI_ge (b := 48) (by omega) (by decide)), gR_ok o, ob_some, rw_g1037_323 hR, e48, gA_ok (rw_ok326 hR) (by rw [rw_ln326 hR]; omega) (by omega), ob_some, nm L (by omega), if_neg (Nat.lt_irrefl L), if_pos rfl]
  rw [l1]
  unfold fX16_endsWith_L28
  rw [x_rcS ht, ob_some, x_len fu ht, b2_some]
  by_cases q : txL t ≤ L
  · rw [if_pos (nI_le q (by omega))]
    have ix : ∀ i, i < txL t → (48 : Int32) * nI r + nI L - nI (txL t) + nI i = nI (48 * r + (L - txL t + i)) := fun i hi => by
      rw [e48, nI_sub (by omega), nI_add]
      congr 1
      omega
    have := lpAll (fun m i => fX16_endsWith_L41 fu m 323 (nI r) (some t) (nI L) (nI i) A) (txL t) (fun i => P (L - txL t + i) = txC t i) (some ((1 : Int32), A)) (some ((0 : Int32), A)) (fun m i hi hq => by
      rw [fX16_endsWith_L41, x_rcS ht, ob_some, x_len fu ht, b2_some, if_neg (nI_ge hi (by omega)), gR_ok o, ob_some, rw_g1037_323 hR, ob_some, x_len fu ht, b2_some, ix i hi, gA_ok (rw_ok326 hR) (by rw [rw_ln326 hR]; omega) (by omega), ob_some, nm _ (by omega), if_pos (show L - txL t + i < L by omega), ob_some, x_char fu ht hi, b2_some, if_pos (by rw [hq]), nI_1]) (fun m i hi hq => by
      have := (hc i hi).2.2
      have := (hp.2.2.1 (L - txL t + i) (by omega)).2.1
      rw [fX16_endsWith_L41, x_rcS ht, ob_some, x_len fu ht, b2_some, if_neg (nI_ge hi (by omega)), gR_ok o, ob_some, rw_g1037_323 hR, ob_some, x_len fu ht, b2_some, ix i hi, gA_ok (rw_ok326 hR) (by rw [rw_ln326 hR]; omega) (by omega), ob_some, nm _ (by omega), if_pos (show L - txL t + i < L by omega), ob_some, x_char fu ht hi, b2_some, if_neg (fun z => hq ((nI_eq (by omega) (by omega)).mp z)), rN0]) (fun m => by
      rw [fX16_endsWith_L41, x_rcS ht, ob_some, x_len fu ht, b2_some, if_pos (nI_le (Nat.le_refl _) (by omega)), rN1]) (fu := fu) (by omega)
    rcases this with ⟨y1, y2⟩ | ⟨y1, y2⟩
    · rw [if_pos ⟨q, y1⟩]; exact y2
    · rw [if_neg (fun z => y1 z.2)]; exact y2
  · rw [if_neg (nI_ge (by omega) (by omega)), if_neg (fun z => q z.1), rN0]
theorem x_ends (fu : Nat) (hfu : 5000 ≤ fu) (hW : XW M) (hp : PT A M L L P) (hL : L ≤ 47) {t : Nat} (ht : t < 50) : fX7_pathEndsWith fu 319 (some t) M = some (if endP L P t then 1 else 0, M) := by
  have o := xw_ok319 hW
  obtain ⟨hb, hc⟩ := tx_ok t ht
  unfold fX7_pathEndsWith
  rw [gI_ok o, ob_some, hp.2.1, show min L 48 = L by omega, x_rcS ht, ob_some, x_len fu ht, b2_some]
  by_cases q : txL t ≤ L
  · rw [nI_sub q, if_pos (show (0 : Int32) ≤ nI (L - txL t) from nI_le (a := 0) (by omega) (by omega))]
    have := lpAll (fun m i => fX7_pathEndsWith_L18 fu m 319 (some t) (nI (L - txL t)) (nI i) M) (txL t) (fun i => P (L - txL t + i) = txC t i) (some ((1 : Int32), M)) (some ((0 : Int32), M)) (fun m i hi hq => by
      have p2 := (hp.2.2.1 (L - txL t + i) (by omega)).2.1
      rw [fX7_pathEndsWith_L18, x_rcS ht, ob_some, x_len fu ht, b2_some, if_neg (nI_ge hi (by omega)), gR_ok o, ob_some, xw_g451_319 hW, nI_add, x_one fu (xw_ok321 hW) (by rw [xw_ln321 hW]; decide) (by rw [xw_ln321 hW]; omega), b2_some, ob_some, x_char fu ht hi, b2_some, hp.2.2.2 _ (by omega) (by omega), (u8_eq (isB_nI p2) p2).mpr rfl, if_pos (by rw [hq]), nI_1]) (fun m i hi hq => by
      have := (hc i hi).2.2
      have p2 := (hp.2.2.1 (L - txL t + i) (by omega)).2.1
      rw [fX7_pathEndsWith_L18, x_rcS ht, ob_some, x_len fu ht, b2_some, if_neg (nI_ge hi (by omega)), gR_ok o, ob_some, xw_g451_319 hW, nI_add, x_one fu (xw_ok321 hW) (by rw [xw_ln321 hW]; decide) (by rw [xw_ln321 hW]; omega), b2_some, ob_some, x_char fu ht hi, b2_some, hp.2.2.2 _ (by omega) (by omega), (u8_eq (isB_nI p2) p2).mpr rfl, if_neg (fun z => hq ((nI_eq (by omega) (by omega)).mp z)), rN0]) (fun m => by
      rw [fX7_pathEndsWith_L18, x_rcS ht, ob_some, x_len fu ht, b2_some, if_pos (nI_le (Nat.le_refl _) (by omega)), rN1]) (fu := fu) (by omega)
    rcases this with ⟨y1, y2⟩ | ⟨y1, y2⟩
    · rw [if_pos ⟨q, y1⟩]; exact y2
    · rw [if_neg (fun z => y1 z.2)]; exact y2
  · rw [if_neg (show ¬ (0 : Int32) ≤ nI L - nI (txL t) from fun z => by
      have := pk_sneg (a := L) (b := txL t) (by omega) (by omega)
      exact absurd this (Int32.not_lt.mpr z)), if_neg (fun z => q z.1), rN0]
/-- two ends do not go together -/
theorem end_x : ∀ t, t < 50 → (t = 27 ∨ t = 29 ∨ t = 31) → ∃ q, q < txL t ∧ q < txL 33 ∧ txC t (txL t - 1 - q) ≠ txC 33 (txL 33 - 1 - q) := by decide +kernel
theorem end_no {t : Nat} (ht : t = 27 ∨ t = 29 ∨ t = 31) (h : endP L P t) : ¬ endP L P 33 := fun g => by
  obtain ⟨q, q1, q2, q3⟩ := end_x t (by omega) ht
  have e1 := h.2 (txL t - 1 - q) (by omega)
  have e2 := g.2 (txL 33 - 1 - q) (by omega)
  have h1 := h.1
  have g1 := g.1
  rw [show L - txL t + (txL t - 1 - q) = L - 1 - q by omega] at e1
  rw [show L - txL 33 + (txL 33 - 1 - q) = L - 1 - q by omega] at e2
  exact q3 (e1.symm.trans e2)
def tyN (L : Nat) (P : Nat → Nat) : Nat := if endP L P 27 then 28 else if endP L P 29 then 30 else if endP L P 31 then 32 else if endP L P 33 then 34 else if endP L P 35 then 36 else 37
theorem tyN_lt : tyN L P < 50 ∧ txL (tyN L P) ≤ 24 := by
  have : ∀ t, t < 50 → (t = 28 ∨ t = 30 ∨ t = 32 ∨ t = 34 ∨ t = 36 ∨ t = 37) → txL t ≤ 24 := by decide +kernel
  have h : tyN L P = 28 ∨ tyN L P = 30 ∨ tyN L P = 32 ∨ tyN L P = 34 ∨ tyN L P = 36 ∨ tyN L P = 37 := by
    unfold tyN
    repeat' split
    all_goals omega
  exact ⟨by omega, this _ (by omega) h⟩
theorem sp_type (fu : Nat) (hfu : 5000 ≤ fu) (hR : RW A) (hW : XW M) (hf : FI F ek im A M) (hp : PT A M L L P) (hL : L ≤ 47) {r : Nat} (hr : r < F) (hm : mtch M ek L P r) : fX16_type fu 323 (nI r) A = some (some (tyN L P), A) ∧ fX7_contentType fu 319 M = some (some (tyN L P), M) := by
  have o := rw_ok323 hR
  have o7 := xw_ok319 hW
  have hF := hf.le
  have eA : ∀ t, t < 50 → fX16_endsWith fu 323 (nI r) (some t) A = some (if endP L P t then 1 else 0, A) := fun t ht => m_ends fu hfu hR hf hp hL hr hm ht
  have eX : ∀ t, t < 50 → fX7_pathEndsWith fu 319 (some t) M = some (if endP L P t then 1 else 0, M) := fun t ht => x_ends fu hfu hW hp hL ht
  constructor
  · unfold fX16_type tyN
    rw [if_neg (nI_pos (by omega)), rc_ok o, ob_some, eA 33 (by decide), b2_some, if10]
    by_cases q3 : endP L P 33
    · have n7 : ¬ endP L P 27 := fun z => end_no (by omega) z q3
      have n9 : ¬ endP L P 29 := fun z => end_no (by omega) z q3
      have n1 : ¬ endP L P 31 := fun z => end_no (by omega) z q3
      rw [if_pos q3, if_neg n7, if_neg n9, if_neg n1, if_pos q3]
    · rw [if_neg q3, rc_ok o, ob_some, eA 27 (by decide), b2_some, if10]
      by_cases q7 : endP L P 27
      · rw [if_pos q7, if_pos q7]
      · rw [if_neg q7, if_neg q7, rc_ok o, ob_some, eA 29 (by decide), b2_some, if10]
        by_cases q9 : endP L P 29
        · rw [if_pos q9, if_pos q9]
        · rw [if_neg q9, if_neg q9, rc_ok o, ob_some, eA 31 (by decide), b2_some, if10]
          by_cases q1 : endP L P 31
          · rw [if_pos q1, if_pos q1]
          · rw [if_neg q1, if_neg q1, if_neg q3, rc_ok o, ob_some, eA 35 (by decide), b2_some, if10]
            by_cases q5 : endP L P 35
            · rw [if_pos q5, if_pos q5]
            · rw [if_neg q5, if_neg q5]
  · unfold fX7_contentType tyN
    rw [rc_ok o7, ob_some, eX 27 (by decide), b2_some, if10]
    by_cases q7 : endP L P 27
    · rw [if_pos q7, if_pos q7]
    · rw [if_neg q7, if_neg q7, rc_ok o7, ob_some, eX 29 (by decide), b2_some, if10]
      by_cases q9 : endP L P 29
      · rw [if_pos q9, if_pos q9]
      · rw [if_neg q9, if_neg q9, rc_ok o7, ob_some, eX 31 (by decide), b2_some, if10]
        by_cases q1 : endP L P 31
        · rw [if_pos q1, if_pos q1]
        · rw [if_neg q1, if_neg q1, rc_ok o7, ob_some, eX 33 (by decide), b2_some, if10]
          by_cases q3 : endP L P 33
          · rw [if_pos q3, if_pos q3]
          · rw [if_neg q3, if_neg q3, rc_ok o7, ob_some, eX 35 (by decide), b2_some, if10]
            by_cases q5 : endP L P 35
            · rw [if_pos q5, if_pos q5]
            · rw [if_neg q5, if_neg q5]
end Typ
/-- the digits of a mark -/
theorem hdg_z : ∀ z, z < 16 → ∃ y, y < 128 ∧ (if (10 : Int32) ≤ nI z then ((97 : Int32) + nI z) - (10 : Int32) else (48 : Int32) + nI z) = nI y := by decide +kernel
theorem hdg_n (v : Int32) (i : Nat) : ∃ y, y < 128 ∧ hdg v i = nI y := by
  unfold hdg
  have e : (ushr v ((28 : Int32) - ((4 : Int32) * nI i))) &&& (15 : Int32) = nI ((ushr v ((28 : Int32) - ((4 : Int32) * nI i))).toBitVec.toNat % 16) := by
    apply Int32.toBitVec_inj.mp
    apply BitVec.eq_of_toNat_eq
    rw [pk_tn (by omega)]
    show ((ushr v ((28 : Int32) - ((4 : Int32) * nI i))).toBitVec &&& 15#32).toNat = _
    rw [BitVec.toNat_and, BitVec.toNat_ofNat, show 15 % 2 ^ 32 = 2 ^ 4 - 1 by decide, Nat.and_two_pow_sub_one_eq_mod]
  rw [e]
  exact hdg_z _ (Nat.mod_lt _ (by decide))
def hdN (v : Int32) (i : Nat) : Nat := (hdg v i).toNatClampNeg
theorem hdN_ok (v : Int32) (i : Nat) : hdN v i < 128 ∧ hdg v i = nI (hdN v i) := by
  obtain ⟨y, y1, y2⟩ := hdg_n v i
  have : hdN v i = y := by unfold hdN; rw [y2, nI_clamp (by omega)]
  rw [this]
  exact ⟨y1, y2⟩
def hk (v : Int32) : Nat → Nat → List Nat
  | _, 0 => []
  | j, d + 1 => hdN v j :: hk v (j + 1) d
theorem hk_len (v : Int32) : ∀ d j, (hk v j d).length = d
  | 0, _ => rfl
  | d + 1, j => by show (hk v (j + 1) d).length + 1 = _; rw [hk_len v d (j + 1)]
abbrev hk' (v : Int32) : List Nat := hk v 0 8
theorem x_mark (fu : Nat) (hfu : 100 ≤ fu) {c : Nat} (v : Int32) : stX c (fun A => fX1_writeMark fu c v A) (34 :: (hk v 0 8 ++ [34])) := by
  have s28 : ∀ j, j < 9 → (28 : Int32) - (4 : Int32) * nI j + (-4 : Int32) = (28 : Int32) - (4 : Int32) * nI (j + 1) := by decide +kernel
  have sp8 : ¬ (0 : Int32) ≤ (28 : Int32) - (4 : Int32) * nI 8 ∧ ∀ j, j < 8 → ¬ (28 : Int32) - (4 : Int32) * nI j < 0 := by decide +kernel
  have loop : ∀ d j m, j + d = 8 → d ≤ m → stX c (fun A => fX1_writeMark_L9 fu (m + 1) c v ((28 : Int32) - (4 : Int32) * nI j) A) (hk v j d ++ [34]) := by
    intro d
    induction d with
    | zero =>
      intro j m h1 h2
      have e : j = 8 := by omega
      subst e
      refine stX.of (x_code fu (c := c) (v := 34) (by decide)).fin (fun A hR => ?_)
      rw [fX1_writeMark_L9, if_pos (show (28 : Int32) - (4 : Int32) * nI 8 < 0 by decide), rc_ok hR.1, ob_some]
      rfl
    | succ d ih =>
      intro j m h1 h2
      obtain ⟨k1, k2⟩ := hdN_ok v j
      have := (x_code fu (c := c) k1).seq (ih (j + 1) (m - 1) (by omega) (by omega))
      rw [show m - 1 + 1 = m by omega] at this
      refine stX.of this (fun A hR => ?_)
      rw [fX1_writeMark_L9, if_neg (sp8.2 j (by omega)), x_hexCode fu, b2_some, rc_ok hR.1, ob_some, s28 j (by omega), k2]
  have := (x_code fu (c := c) (v := 34) (by decide)).seq (loop 8 0 (fu - 1) (by omega) (by omega))
  rw [show fu - 1 + 1 = fu by omega] at this
  refine stX.of this (fun A hR => ?_)
  unfold fX1_writeMark
  rw [rc_ok hR.1, ob_some]
  rfl
theorem m_mark (fu : Nat) {k : Nat} (hk' : k < 16) (v : Int32) {r : Nat} (hr : r < 64) (a3 a4 : Int32) : ∀ (d j m : Nat) (A : Mm) (l : List Nat), j + d = 8 → d ≤ m → RW A → By A → WA A k l → mA A 329 r = v → l.length + d + 3 ≤ 256 → ∃ A', fX16_make_L164 fu (m + 1) 323 (some (342 + 4 * k)) (nI r) a3 a4 (nI j) A = fX16_make_L205 fu 323 (some (342 + 4 * k)) (nI r) a3 a4 A' ∧ HA k A A' ∧ By A' ∧ WA A' k (l ++ (hk v j d ++ [34, 13, 10])) := by
  intro d
  induction d with
  | zero =>
    intro j m A l h1 h2 hR hB hw hv hl
    have e : j = 8 := by omega
    subst e
    obtain ⟨A1, r1, r2, r3, r4⟩ := m_code fu hk' (v := 34) (by decide) A l hR hB hw (by show l.length + 1 ≤ 256; omega)
    obtain ⟨A2, s1, s2, s3, s4⟩ := m_line fu hk' A1 _ (r2.rW hR) r3 r4 (by rw [List.length_append]; show l.length + 1 + 2 ≤ 256; omega)
    refine ⟨A2, ?_, r2.tr s2, s3, ?_⟩
    · rw [fX16_make_L164, if_pos (show (8 : Int32) ≤ nI 8 by decide), rc_ok (rw_ok323 hR), ob_some, show fX16_code fu 323 (some (342 + 4 * k)) (34 : Int32) A = some A1 from r1, ob_some, rc_ok (rw_ok323 (r2.rW hR)), ob_some, show fX16_line fu 323 (some (342 + 4 * k)) A1 = some A2 from s1, ob_some]
    · rw [List.append_assoc] at s4
      exact s4
  | succ d ih =>
    intro j m A l h1 h2 hR hB hw hv hl
    obtain ⟨k1, k2⟩ := hdN_ok v j
    obtain ⟨A1, r1, r2, r3, r4⟩ := m_code fu hk' k1 A l hR hB hw (by show l.length + 1 ≤ 256; omega)
    obtain ⟨A2, s1, s2, s3, s4⟩ := ih (j + 1) (m - 1) A1 (l ++ [hdN v j]) (by omega) (by omega) (r2.rW hR) r3 r4 ((congrFun (r2.2.2.2.2 329 (by omega)) r).trans hv) (by rw [List.length_append]; show l.length + 1 + d + 3 ≤ 256; omega)
    rw [show m - 1 + 1 = m by omega] at s1
    refine ⟨A2, ?_, r2.tr s2, s3, ?_⟩
    · rw [fX16_make_L164, if_neg (show ¬ (8 : Int32) ≤ nI j from nI_ge (b := 8) (by omega) (by decide)), gR_ok (rw_ok323 hR), ob_some, rw_g1040_323 hR, gA_ok (rw_ok329 hR) (by rw [rw_ln329 hR]; omega) (by omega), ob_some, hv, m_hexDigit fu v (by omega), b2_some, rc_ok (rw_ok323 hR), ob_some, k2, show fX16_code fu 323 (some (342 + 4 * k)) (nI (hdN v j)) A = some A1 from r1, ob_some, nI_1]
      exact s1
    · rw [List.append_assoc] at s4
      exact s4
