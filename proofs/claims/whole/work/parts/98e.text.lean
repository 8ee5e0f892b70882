/-! ===== part 98e: texts, loops that look, codes ===== -/
def txL (k : Nat) : Nat := (strB.getD k []).length
def txC (k i : Nat) : Nat := ((strB.getD k []).getD i 0).toNatClampNeg
theorem tx_len : strB.length = 50 := by decide +kernel
theorem tx_ok : ∀ k, k < 50 → txL k ≤ 40 ∧ ∀ i, i < txL k → (strB.getD k []).getD i 0 = nI (txC k i) ∧ 0 < txC k i ∧ txC k i < 128 := by decide +kernel
theorem rN_c {n : Nat} (h : n < 65536) {M : Mm} : rN .char (nI n) M = some (nI n, M) := by
  unfold rN
  rw [(pk_charN h).1, if_pos rfl]
theorem i2c_n {n : Nat} (h : n < 65536) : i2c (nI n) = nI n := by
  rw [show i2c (nI n) = nI ((nI n).toBitVec.toNat % 65536) from pk_char (nI n), pk_tn (by omega), Nat.mod_eq_of_lt h]
theorem and255 {n : Nat} (h : n < 256) : nI n &&& (255 : Int32) = nI n := by
  rw [show nI n &&& (255 : Int32) = nI (n % 2 ^ 8) from pk_andN (by omega) 8 (by decide), Nat.mod_eq_of_lt (by omega)]
theorem x_rcS {k : Nat} (hk : k < 50) : rcS (some k) = some k := if_pos (by rw [tx_len]; exact hk)
theorem x_len (fu : Nat) {k : Nat} (hk : k < 50) (M : Mm) : fJ0_length_8abf5 fu k M = some (nI (txL k), M) := by
  have hl : k < strB.length := by rw [tx_len]; exact hk
  have h1 : gSv (some k) = some (some (100 + k)) := if_pos hl
  have h2 : aLS (some (100 + k)) = some (nI (txL k)) := by
    show (if 100 ≤ 100 + k ∧ 100 + k - 100 < strB.length then some (nI (strB.getD (100 + k - 100) []).length) else none) = _
    rw [if_pos ⟨by omega, by omega⟩, show 100 + k - 100 = k by omega]
    rfl
  have h3 : gSc (some k) = some 0 := if_pos hl
  have hb := (tx_ok k hk).1
  unfold fJ0_length_8abf5 fJ0_coder_7d493
  rw [h1, ob_some, h2, ob_some, x_rcS hk, ob_some, if_neg (by decide), h3, ob_some, rN_b isB_0, b2_some, show (nI (txL k)) >>> ((0 : Int32) &&& 31) = nI (txL k / 2 ^ 0) from pk_shrN (by omega) _ 0 (by decide)]
  simp
theorem x_char (fu : Nat) {k i : Nat} (hk : k < 50) (hi : i < txL k) (M : Mm) : fJ0_charAt_5068e fu k (nI i) M = some (nI (txC k i), M) := by
  have hl : k < strB.length := by rw [tx_len]; exact hk
  have h1 : gSv (some k) = some (some (100 + k)) := if_pos hl
  have h3 : gSc (some k) = some 0 := if_pos hl
  obtain ⟨hb, ht⟩ := tx_ok k hk
  obtain ⟨t1, t2, t3⟩ := ht i hi
  have h2 : aLS (some (100 + k)) = some (nI (txL k)) := by
    show (if 100 ≤ 100 + k ∧ 100 + k - 100 < strB.length then some (nI (strB.getD (100 + k - 100) []).length) else none) = _
    rw [if_pos ⟨by omega, by omega⟩, show 100 + k - 100 = k by omega]
    rfl
  have h4 : gAS (some (100 + k)) (nI i) = some (nI (txC k i)) := by
    show (if (100 ≤ 100 + k ∧ 100 + k - 100 < strB.length) ∧ ¬ nI i < 0 ∧ (nI i).toNatClampNeg < (strB.getD (100 + k - 100) []).length then some ((strB.getD (100 + k - 100) []).getD (nI i).toNatClampNeg 0) else none) = _
    rw [nI_clamp (by omega), show 100 + k - 100 = k by omega, if_pos ⟨⟨by omega, hl⟩, nI_pos (by omega), hi⟩, t1]
  unfold fJ0_charAt_5068e fJ0_isLatin1_aae02 fJ1_charAt_3b067 fJ0_checkIndex_df160 fJ3_checkIndex_8e157
  rw [x_rcS hk, ob_some, if_neg (by decide), h3, ob_some, if_pos rfl, rN1, b2_some, if_neg (by decide), h1, ob_some, h2, ob_some, if_neg (nI_pos (by omega)), if_pos (nI_lt hi (by omega)), b2_some, ob_some, h4, ob_some, and255 (by omega), i2c_n (by omega), rN_c (by omega), b2_some, rN_c (by omega)]
/-- a loop that goes on as long as something holds, over all of it or not -/
theorem lpAll {β : Type} (F : Nat → Nat → β) (n : Nat) (P : Nat → Prop) (y z : β) (hs : ∀ m j, j < n → P j → F (m + 1) j = F m (j + 1)) (hz : ∀ m j, j < n → ¬ P j → F (m + 1) j = z) (hy : ∀ m, F (m + 1) n = y) {fu : Nat} (hf : n < fu) : ((∀ j, j < n → P j) ∧ F fu 0 = y) ∨ (¬ (∀ j, j < n → P j) ∧ F fu 0 = z) := by
  rcases fst_or (fun j => ¬ P j) n with ⟨k, k1, k2, k3⟩ | hno
  · right
    refine ⟨fun hh => k2 (hh k k1), ?_⟩
    have := lp F (i := 0) (k := k) (by omega) (fun m j _ hj => hs m j (by omega) (Classical.not_not.mp (k3 j hj))) (fu - k)
    rw [show fu - k + (k - 0) = fu by omega] at this
    rw [this, show fu - k = (fu - k - 1) + 1 by omega]
    exact hz _ k k1 k2
  · left
    refine ⟨fun j hj => Classical.not_not.mp (hno j hj), ?_⟩
    have := lp F (i := 0) (k := n) (by omega) (fun m j _ hj => hs m j hj (Classical.not_not.mp (hno j hj))) (fu - n)
    rw [show fu - n + (n - 0) = fu by omega] at this
    rw [this, show fu - n = (fu - n - 1) + 1 by omega]
    exact hy _
/-- where a look stops -/
def Stop (P : Nat → Prop) (i n j : Nat) : Prop := i ≤ j ∧ j ≤ n ∧ (∀ x, i ≤ x → x < j → P x) ∧ (j < n → ¬ P j)
theorem Stop.uniq {P : Nat → Prop} {i n j j' : Nat} (h : Stop P i n j) (g : Stop P i n j') : j = j' := by
  obtain ⟨h1, h2, h3, h4⟩ := h
  obtain ⟨g1, g2, g3, g4⟩ := g
  by_cases q : j < j'
  · exact absurd (g3 j h1 q) (h4 (by omega))
  · by_cases q2 : j' < j
    · exact absurd (h3 j' g1 q2) (g4 (by omega))
    · omega
theorem Stop.ex (P : Nat → Prop) {i n : Nat} (h : i ≤ n) : ∃ j, Stop P i n j := by
  rcases fst_or (fun j => i ≤ j ∧ ¬ P j) n with ⟨k, k1, k2, k3⟩ | hno
  · exact ⟨k, k2.1, by omega, fun x h1 h2 => Classical.not_not.mp (fun e => k3 x h2 ⟨h1, e⟩), fun _ => k2.2⟩
  · exact ⟨n, h, Nat.le_refl _, fun x h1 h2 => Classical.not_not.mp (fun e => hno x h2 ⟨h1, e⟩), fun e => by omega⟩
theorem lpStop {β : Type} (F : Nat → Nat → β) {i n j : Nat} {P : Nat → Prop} (hj : Stop P i n j) (K : Nat → β) (hs : ∀ m x, i ≤ x → x < n → P x → F (m + 1) x = F m (x + 1)) (hz : ∀ m x, i ≤ x → x < n → ¬ P x → F (m + 1) x = K x) (hy : ∀ m, F (m + 1) n = K n) {fu : Nat} (hf : n - i < fu) : F fu i = K j := by
  obtain ⟨h1, h2, h3, h4⟩ := hj
  have := lp F (i := i) (k := j) h1 (fun m x g1 g2 => hs m x g1 (by omega) (h3 x g1 g2)) (fu - (j - i))
  rw [show fu - (j - i) + (j - i) = fu by omega] at this
  rw [this, show fu - (j - i) = (fu - (j - i) - 1) + 1 by omega]
  by_cases q : j < n
  · exact hz _ j h1 q (h4 q)
  · have : j = n := by omega
    subst this
    exact hy _
/-- the head of a request, in both -/
def HD (H : Nat → Nat) (n : Nat) (A M : Mm) : Prop := n ≤ 4096 ∧ (∀ j, H j < 256) ∧ (∀ j, j < n → bv (mA A 340 j) = H j) ∧ (∀ j, j < n → bv (mA M 320 j) = H j)
section Text
variable {A M : Mm} {H : Nat → Nat} {n : Nat}
theorem m_headAt (fu : Nat) (hR : RW A) (h : HD H n A M) {i : Nat} (hi : i < n) : fX16_headAt fu 323 (nI i) A = some (nI (H i), A) := by
  unfold fX16_headAt
  rw [gR_ok (rw_ok323 hR), ob_some, rw_g1065_323 hR, gA_ok (rw_ok340 hR) (by rw [rw_ln340 hR]; have := h.1; omega) (by have := h.1; omega), ob_some, ← h.2.2.1 i hi]
  exact congrArg (fun z => some (z, A)) (u8_bv _)
theorem m_hd (hR : RW A) (hB : By A) (h : HD H n A M) {i : Nat} (hi : i < n) : ∃ v, gA A 100 (some 340) (nI i) = some v ∧ ∀ x, x < 128 → (v = nI x ↔ H i = x) := by
  have := h.1
  refine ⟨mA A 340 i, gA_ok (rw_ok340 hR) (by rw [rw_ln340 hR]; omega) (by omega), fun x hx => ?_⟩
  rw [isB_n (hB 340 i (rw_ok340 hR).2.2) hx, h.2.2.1 i hi]
theorem x_oneH (fu : Nat) (hW : XW M) (h : HD H n A M) {i : Nat} (hi : i < n) : fX11_one fu (some 320) (nI i) M = some (nI (H i), M) := by
  have := h.1
  rw [x_one fu (xw_ok320 hW) (by rw [xw_ln320 hW]; decide) (by rw [xw_ln320 hW]; omega), u8_bv, h.2.2.2 i hi]
/-- some value beyond it -/
theorem x_oneE (fu : Nat) (hW : XW M) {i : Nat} (hi : i < 2 ^ 31) : ∃ b, b < 256 ∧ fX11_one fu (some 320) (nI i) M = some (nI b, M) := by
  by_cases q : i < 4096
  · refine ⟨bv (mA M 320 i), bv_lt _, ?_⟩
    rw [x_one fu (xw_ok320 hW) (by rw [xw_ln320 hW]; decide) (by rw [xw_ln320 hW]; omega), u8_bv]
  · exact ⟨0, by decide, x_one0 fu (xw_ok320 hW) (by rw [xw_ln320 hW]; decide) (by rw [xw_ln320 hW]; omega) hi⟩
def smN (c : Nat) : Nat := if 65 ≤ c ∧ c ≤ 90 then c + 32 else c
theorem smN_lt {c : Nat} (h : c < 256) : smN c < 256 := by unfold smN; split <;> omega
theorem m_small (fu : Nat) {c : Nat} (hc : c < 256) (A : Mm) : fX16_small fu (nI c) A = some (nI (smN c), A) := by
  unfold fX16_small smN
  by_cases q : c < 65
  · rw [if_pos (show nI c < (65 : Int32) from nI_lt (b := 65) q (by decide)), if_neg (by omega)]
  · rw [if_neg (show ¬ nI c < (65 : Int32) from nI_nlt (b := 65) (by omega) (by omega))]
    by_cases q2 : 90 < c
    · rw [if_pos (show (90 : Int32) < nI c from nI_lt (a := 90) q2 (by omega)), if_neg (by omega)]
    · rw [if_neg (show ¬ (90 : Int32) < nI c from nI_nlt (a := 90) (by omega) (by omega)), if_pos (by omega), show nI c + (32 : Int32) = nI (c + 32) from nI_add c 32]
/-- does a text stand from f to t: great and small letters are looked at by g -/
abbrev eqT (g : Nat → Nat) (H : Nat → Nat) (f t k : Nat) : Prop := t = f + txL k ∧ ∀ i, i < txL k → g (H (f + i)) = txC k i
theorem sub_eq {t f l : Nat} (h1 : f ≤ t) (h2 : t < 2 ^ 30) (h3 : l < 2 ^ 30) : nI t - nI f = nI l ↔ t = f + l := by
  rw [nI_sub h1, nI_eq (by omega) (by omega)]
  omega
theorem m_says (fu : Nat) (hfu : 100 ≤ fu) (hR : RW A) (h : HD H n A M) {f t k : Nat} (hk : k < 50) (h1 : f ≤ t) (h2 : t ≤ n) : fX16_says fu 323 (nI f) (nI t) (some k) A = some (if eqT id H f t k then 1 else 0, A) := by
  have hn := h.1
  obtain ⟨hb, ht⟩ := tx_ok k hk
  unfold fX16_says
  rw [x_rcS hk, ob_some, x_len fu hk, b2_some]
  by_cases q : t = f + txL k
  · rw [if_pos ((sub_eq h1 (by omega) (by omega)).mpr q)]
    have hl := lpAll (fun m i => fX16_says_L15 fu m 323 (nI f) (nI t) (some k) (nI (f + i)) A) (txL k) (fun i => id (H (f + i)) = txC k i) (some ((1 : Int32), A)) (some ((0 : Int32), A)) (fun m i hi hp => by
      rw [fX16_says_L15, if_neg (nI_ge (by omega) (by omega)), rc_ok (rw_ok323 hR), ob_some, m_headAt fu hR h (by omega), b2_some, x_rcS hk, ob_some, nI_sub (show f ≤ f + i by omega), show f + i - f = i by omega, x_char fu hk hi, b2_some, if_pos (by rw [← hp]; rfl), nI_1, Nat.add_assoc]) (fun m i hi hp => by
      have hh := h.2.1 (f + i)
      have := (ht i hi).2.2
      rw [fX16_says_L15, if_neg (nI_ge (by omega) (by omega)), rc_ok (rw_ok323 hR), ob_some, m_headAt fu hR h (by omega), b2_some, x_rcS hk, ob_some, nI_sub (show f ≤ f + i by omega), show f + i - f = i by omega, x_char fu hk hi, b2_some, if_neg (show ¬ nI (H (f + i)) = nI (txC k i) from fun e => hp ((nI_eq (a := H (f + i)) (by omega) (by omega)).mp e)), rN0]) (fun m => by
      rw [fX16_says_L15, if_pos (nI_le (by omega) (by omega)), rN1]) (fu := fu) (by omega)
    have e0 : fX16_says_L15 fu fu 323 (nI f) (nI t) (some k) (nI f) A = fX16_says_L15 fu fu 323 (nI f) (nI t) (some k) (nI (f + 0)) A := rfl
    rcases hl with ⟨y1, y2⟩ | ⟨y1, y2⟩
    · rw [if_pos ⟨q, y1⟩, e0]; exact y2
    · rw [if_neg (fun e => y1 e.2), e0]; exact y2
  · rw [if_neg (fun e => q ((sub_eq h1 (by omega) (by omega)).mp e)), if_neg (fun e => q e.1), rN0]
theorem m_saysSmall (fu : Nat) (hfu : 100 ≤ fu) (hR : RW A) (h : HD H n A M) {f t k : Nat} (hk : k < 50) (h1 : f ≤ t) (h2 : t ≤ n) : fX16_saysSmall fu 323 (nI f) (nI t) (some k) A = some (if eqT smN H f t k then 1 else 0, A) := by
  have hn := h.1
  obtain ⟨hb, ht⟩ := tx_ok k hk
  unfold fX16_saysSmall
  rw [x_rcS hk, ob_some, x_len fu hk, b2_some]
  by_cases q : t = f + txL k
  · rw [if_pos ((sub_eq h1 (by omega) (by omega)).mpr q)]
    have hl := lpAll (fun m i => fX16_saysSmall_L15 fu m 323 (nI f) (nI t) (some k) (nI (f + i)) A) (txL k) (fun i => smN (H (f + i)) = txC k i) (some ((1 : Int32), A)) (some ((0 : Int32), A)) (fun m i hi hp => by
      rw [fX16_saysSmall_L15, if_neg (nI_ge (by omega) (by omega)), rc_ok (rw_ok323 hR), ob_some, m_headAt fu hR h (by omega), b2_some, m_small fu (h.2.1 _), b2_some, x_rcS hk, ob_some, nI_sub (show f ≤ f + i by omega), show f + i - f = i by omega, x_char fu hk hi, b2_some, if_pos (by rw [← hp]), nI_1, Nat.add_assoc]) (fun m i hi hp => by
      have hh := smN_lt (h.2.1 (f + i))
      have := (ht i hi).2.2
      rw [fX16_saysSmall_L15, if_neg (nI_ge (by omega) (by omega)), rc_ok (rw_ok323 hR), ob_some, m_headAt fu hR h (by omega), b2_some, m_small fu (h.2.1 _), b2_some, x_rcS hk, ob_some, nI_sub (show f ≤ f + i by omega), show f + i - f = i by omega, x_char fu hk hi, b2_some, if_neg (fun e => hp ((nI_eq (by omega) (by omega)).mp e)), rN0]) (fun m => by
      rw [fX16_saysSmall_L15, if_pos (nI_le (by omega) (by omega)), rN1]) (fu := fu) (by omega)
    have e0 : fX16_saysSmall_L15 fu fu 323 (nI f) (nI t) (some k) (nI f) A = fX16_saysSmall_L15 fu fu 323 (nI f) (nI t) (some k) (nI (f + 0)) A := rfl
    rcases hl with ⟨y1, y2⟩ | ⟨y1, y2⟩
    · rw [if_pos ⟨q, y1⟩, e0]; exact y2
    · rw [if_neg (fun e => y1 e.2), e0]; exact y2
  · rw [if_neg (fun e => q ((sub_eq h1 (by omega) (by omega)).mp e)), if_neg (fun e => q e.1), rN0]
theorem x_isText (fu : Nat) (hfu : 100 ≤ fu) (hW : XW M) (h : HD H n A M) {f t k : Nat} (hk : k < 50) (h1 : f ≤ t) (h2 : t ≤ n) : fX7_isText fu 319 (nI f) (nI t) (some k) M = some (if eqT id H f t k then 1 else 0, M) := by
  have hn := h.1
  obtain ⟨hb, ht⟩ := tx_ok k hk
  unfold fX7_isText
  rw [x_rcS hk, ob_some, x_len fu hk, b2_some]
  by_cases q : t = f + txL k
  · rw [if_pos ((sub_eq h1 (by omega) (by omega)).mpr q)]
    have hl := lpAll (fun m i => fX7_isText_L15 fu m 319 (nI f) (some k) (nI i) M) (txL k) (fun i => id (H (f + i)) = txC k i) (some ((1 : Int32), M)) (some ((0 : Int32), M)) (fun m i hi hp => by
      rw [fX7_isText_L15, x_rcS hk, ob_some, x_len fu hk, b2_some, if_neg (nI_ge hi (by omega)), gR_ok (xw_ok319 hW), ob_some, xw_g450_319 hW, nI_add, x_oneH fu hW h (by omega), b2_some, ob_some, x_char fu hk hi, b2_some, if_pos (by rw [← hp]; rfl), nI_1]) (fun m i hi hp => by
      have hh := h.2.1 (f + i)
      have := (ht i hi).2.2
      rw [fX7_isText_L15, x_rcS hk, ob_some, x_len fu hk, b2_some, if_neg (nI_ge hi (by omega)), gR_ok (xw_ok319 hW), ob_some, xw_g450_319 hW, nI_add, x_oneH fu hW h (by omega), b2_some, ob_some, x_char fu hk hi, b2_some, if_neg (show ¬ nI (H (f + i)) = nI (txC k i) from fun e => hp ((nI_eq (a := H (f + i)) (by omega) (by omega)).mp e)), rN0]) (fun m => by
      rw [fX7_isText_L15, x_rcS hk, ob_some, x_len fu hk, b2_some, if_pos (nI_le (Nat.le_refl _) (by omega)), rN1]) (fu := fu) (by omega)
    rcases hl with ⟨y1, y2⟩ | ⟨y1, y2⟩
    · rw [if_pos ⟨q, y1⟩]; exact y2
    · rw [if_neg (fun e => y1 e.2)]; exact y2
  · rw [if_neg (fun e => q ((sub_eq h1 (by omega) (by omega)).mp e)), if_neg (fun e => q e.1), rN0]
theorem x_isWord (fu : Nat) (hfu : 100 ≤ fu) (hW : XW M) (h : HD H n A M) {f t k : Nat} (hk : k < 50) (h1 : f ≤ t) (h2 : t ≤ n) : fX7_isWord fu 319 (nI f) (nI t) (some k) M = some (if eqT smN H f t k then 1 else 0, M) := by
  have hn := h.1
  obtain ⟨hb, ht⟩ := tx_ok k hk
  unfold fX7_isWord
  rw [x_rcS hk, ob_some, x_len fu hk, b2_some]
  by_cases q : t = f + txL k
  · rw [if_pos ((sub_eq h1 (by omega) (by omega)).mpr q)]
    have stp : ∀ m i, i < txL k → fX7_isWord_L15 fu (m + 1) 319 (nI f) (some k) (nI i) M = if nI (smN (H (f + i))) = nI (txC k i) then fX7_isWord_L15 fu m 319 (nI f) (some k) (nI (i + 1)) M else some (0, M) := fun m i hi => by
      have hh := h.2.1 (f + i)
      rw [fX7_isWord_L15, x_rcS hk, ob_some, x_len fu hk, b2_some, if_neg (nI_ge hi (by omega)), gR_ok (xw_ok319 hW), ob_some, xw_g450_319 hW, nI_add, x_oneH fu hW h (by omega), b2_some]
      unfold fX7_isWord_L59 fX7_isWord_L61 smN
      simp only [x_rcS hk, ob_some, x_char fu hk hi, b2_some, nI_1, rN0]
      by_cases q1 : H (f + i) < 65
      · rw [if_pos (show nI (H (f + i)) < (65 : Int32) from nI_lt (b := 65) q1 (by decide)), if_neg (show ¬ (65 ≤ H (f + i) ∧ H (f + i) ≤ 90) by omega)]
      · rw [if_neg (show ¬ nI (H (f + i)) < (65 : Int32) from nI_nlt (b := 65) (by omega) (by omega))]
        by_cases q2 : 90 < H (f + i)
        · rw [if_pos (show (90 : Int32) < nI (H (f + i)) from nI_lt (a := 90) q2 (by omega)), if_neg (show ¬ (65 ≤ H (f + i) ∧ H (f + i) ≤ 90) by omega)]
        · rw [if_neg (show ¬ (90 : Int32) < nI (H (f + i)) from nI_nlt (a := 90) (by omega) (by omega)), if_pos (show 65 ≤ H (f + i) ∧ H (f + i) ≤ 90 by omega), show nI (H (f + i)) + (32 : Int32) = nI (H (f + i) + 32) from nI_add _ 32]
    have hl := lpAll (fun m i => fX7_isWord_L15 fu m 319 (nI f) (some k) (nI i) M) (txL k) (fun i => smN (H (f + i)) = txC k i) (some ((1 : Int32), M)) (some ((0 : Int32), M)) (fun m i hi hp => by
      show fX7_isWord_L15 fu (m + 1) 319 (nI f) (some k) (nI i) M = _
      rw [stp m i hi, if_pos (by rw [← hp])]) (fun m i hi hp => by
      have hh := smN_lt (h.2.1 (f + i))
      have := (ht i hi).2.2
      show fX7_isWord_L15 fu (m + 1) 319 (nI f) (some k) (nI i) M = _
      rw [stp m i hi, if_neg (fun e => hp ((nI_eq (by omega) (by omega)).mp e))]) (fun m => by
      rw [fX7_isWord_L15, x_rcS hk, ob_some, x_len fu hk, b2_some, if_pos (nI_le (Nat.le_refl _) (by omega)), rN1]) (fu := fu) (by omega)
    rcases hl with ⟨y1, y2⟩ | ⟨y1, y2⟩
    · rw [if_pos ⟨q, y1⟩]; exact y2
    · rw [if_neg (fun e => y1 e.2)]; exact y2
  · rw [if_neg (fun e => q ((sub_eq h1 (by omega) (by omega)).mp e)), if_neg (fun e => q e.1), rN0]
/-- blanks, digits -/
theorem m_blank (fu : Nat) {c : Nat} (hc : c < 256) (A : Mm) : fX16_isBlank fu (nI c) A = some (if c = 32 ∨ c = 9 then 1 else 0, A) := by
  unfold fX16_isBlank
  by_cases q : c = 32
  · rw [if_pos (show nI c = (32 : Int32) by rw [q]; rfl), if_pos (Or.inl q), rN1]
  · rw [if_neg (show ¬ nI c = (32 : Int32) from fun e => q ((nI_eq (b := 32) (by omega) (by decide)).mp e))]
    by_cases q2 : c = 9
    · rw [if_pos (show nI c = (9 : Int32) by rw [q2]; rfl), if_pos (Or.inr q2), rN1]
    · rw [if_neg (show ¬ nI c = (9 : Int32) from fun e => q2 ((nI_eq (b := 9) (by omega) (by decide)).mp e)), if_neg (by omega), rN0]
theorem x_blank (fu : Nat) {c : Nat} (hc : c < 256) (M : Mm) : fX7_isBlank fu (nI c) M = some (if c = 32 ∨ c = 9 then 1 else 0, M) := m_blank fu hc M
theorem m_digit (fu : Nat) {c : Nat} (hc : c < 256) (A : Mm) : fX16_isDigit fu (nI c) A = some (if 48 ≤ c ∧ c ≤ 57 then 1 else 0, A) := by
  unfold fX16_isDigit
  by_cases q : c < 48
  · rw [if_pos (show nI c < (48 : Int32) from nI_lt (b := 48) q (by decide)), if_neg (by omega), rN0]
  · rw [if_neg (show ¬ nI c < (48 : Int32) from nI_nlt (b := 48) (by omega) (by omega))]
    by_cases q2 : 57 < c
    · rw [if_pos (show (57 : Int32) < nI c from nI_lt (a := 57) q2 (by omega)), if_neg (by omega), rN0]
    · rw [if_neg (show ¬ (57 : Int32) < nI c from nI_nlt (a := 57) (by omega) (by omega)), if_pos (by omega), rN1]
end Text
