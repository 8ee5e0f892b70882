/-! ===== part 97g: the bytes of an answer go into a segment ===== -/
/-- the image, in both -/
def JI (im ig : Nat) (A M : Mm) : Prop := (mG M 512 301) = some ig ∧ okA M 100 ig ∧ sLen (mS M) ig = im ∧ im ≤ 65535 ∧ (∀ j, j < im → mA A 325 j = mA M ig j) ∧ ig ≠ 308 ∧ sTy (mS M) (ig - 1) ≠ 6 ∧ sTy (mS M) (ig - 1) ≠ 2 ∧ sTy (mS M) (ig - 1) ≠ 1 ∧ sTy (mS M) (ig - 1) ≠ 0 ∧ ig ≠ 320 ∧ ig ≠ 321
theorem rN_b {v : Int32} {M : Mm} (h : isB v) : rN .byte v M = some (v, M) := by
  unfold rN
  rw [if_pos]
  exact congrArg Value.int h
def ansA (A : Mm) (k hl bp x : Nat) : Int32 := if x < hl then mA A (343 + 4 * k) x else mA A 325 (bp + x - hl)
def ansX (M : Mm) (c ig hl bp x : Nat) : Int32 := if x < hl then mA M (c + 1) x else mA M ig (bp + x - hl)
section Copy
variable {A M : Mm}
theorem ans_same {k c im ig hl bl bp x : Nat} (hE : CE A M k c) (hl1 : (mF A 794 (342 + 4 * k)) = nI hl) (hl2 : hl ≤ 256) (hJ : JI im ig A M) (hb : bl ≠ 0 → bp + bl ≤ im) (hx : x < hl + bl) : ansA A k hl bp x = ansX M c ig hl bp x := by
  unfold ansA ansX
  by_cases h : x < hl
  · rw [if_pos h, if_pos h]
    exact hE.hd x hl hl1 hl2 h
  · rw [if_neg h, if_neg h]
    have := hb (by omega)
    exact hJ.2.2.2.2.1 _ (by omega)
theorem m_copy (fu : Nat) (hR : RW A) (hB : By A) {k nw t im f n : Nat} {b0 : Int32} {v : Nat → Nat} (hk : k < 16) (hI : CIw A k nw t im b0 v) (him : im ≤ 65535) (hf : 1 ≤ f) (hn : n ≤ 1460) (hfn : f - 1 + n ≤ (v 4) + (v 5)) (hfu : 2000 ≤ fu) (fin : Int32) :
    ∃ m, fX16_dataOut fu 323 (some (342 + 4 * k)) (b0 + nI f) (nI n) fin A = fX16_dataOut_L3 fu (m + 1) 323 (some (342 + 4 * k)) (b0 + nI f) (nI n) fin (nI n) (wA A 331 (fun j => if 54 ≤ j ∧ j < 54 + n then ansA A k (v 4) (v 6) (f - 1 + (j - 54)) else mA A 331 j)) := by
  unfold fX16_dataOut
  have b1 := hI.hl1
  have b2' := hI.bl1
  have hR1 : ∀ g, RW (wA A 331 g) := fun g => hR
  have step : ∀ m i, i < n → fX16_dataOut_L3 fu (m + 1) 323 (some (342 + 4 * k)) (b0 + nI f) (nI n) fin (nI i) (wA A 331 (fun j => if 54 ≤ j ∧ j < 54 + i then ansA A k (v 4) (v 6) (f - 1 + (j - 54)) else mA A 331 j)) = fX16_dataOut_L3 fu m 323 (some (342 + 4 * k)) (b0 + nI f) (nI n) fin (nI (i + 1)) (wA A 331 (fun j => if 54 ≤ j ∧ j < 54 + (i + 1) then ansA A k (v 4) (v 6) (f - 1 + (j - 54)) else mA A 331 j)) := by
    intro m i hi
    have e54 : (54 : Int32) + nI i = nI (54 + i) := nI_add 54 i
    have ex : (b0 + nI f + nI i) - (b0 + 1) = nI (f - 1 + i) := by
      rw [Int32.add_assoc, nI_add, show b0 + (1 : Int32) = b0 + nI 1 from rfl, sub_b0, nI_sub (by omega), show f + i - 1 = f - 1 + i by omega]
    have ts : ∀ G, fX16_toSend fu 323 (some (342 + 4 * k)) (b0 + nI f + nI i) (wA A 331 G) = some (ansA A k (v 4) (v 6) (f - 1 + i), wA A 331 G) := fun G => by
      have hA := rw_cnO (hR1 G) k hk
      unfold fX16_toSend ansA
      simp only [gI_ok hA, ob_some, mF_wA, hI.bg, hI.hl, ex]
      by_cases h : f - 1 + i < (v 4)
      · rw [if_neg (nI_ge h (by omega)), if_pos h, gR_ok hA, ob_some, rw_cnHg (hR1 G) k hk, gA_ok (rw_cnH (hR1 G) k hk) (by rw [rw_cnHl (hR1 G) k hk]; omega) (by omega), ob_some, mA_wA_ne (by omega)]
        exact rN_b (hB _ _ (rw_cnH hR k hk).2.2)
      · obtain ⟨p1, p2⟩ := hI.bp (by omega)
        have e2 : (nI (v 6) + nI (f - 1 + i)) - nI (v 4) = nI ((v 6) + (f - 1 + i) - (v 4)) := by rw [nI_add, nI_sub (by omega)]
        rw [if_pos (nI_le (by omega) (by omega)), if_neg h, gR_ok (rw_ok323 (hR1 G)), ob_some, rw_g1026_323 (hR1 G), p1, e2, gA_ok (rw_ok325 (hR1 G)) (by rw [rw_ln325 (hR1 G)]; omega) (by omega), ob_some, mA_wA_ne (by decide)]
        exact rN_b (hB _ _ (rw_ok325 hR).2.2)
    have hBa : isB (ansA A k (v 4) (v 6) (f - 1 + i)) := by
      unfold ansA
      split
      · exact hB _ _ (rw_cnH hR k hk).2.2
      · exact hB _ _ (rw_ok325 hR).2.2
    rw [fX16_dataOut_L3, if_neg (nI_ge hi (by omega)), gR_ok (rw_ok323 (hR1 _)), ob_some, rw_g1043_323 (hR1 _), rc_ok (rw_ok323 (hR1 _)), ob_some, ts, b2_some, toB_byt _ hBa, e54, pA_ok (rw_ok331 (hR1 _)) (by rw [rw_ln331 (hR1 _)]; omega) (by omega), ob_some, nI_1, wA_wA, mA_wA_self]
    refine congrArg (fun z => fX16_dataOut_L3 fu m 323 (some (342 + 4 * k)) (b0 + nI f) (nI n) fin (nI (i + 1)) (wA A 331 z)) ?_
    funext j
    by_cases c : j = 54 + i
    · rw [if_pos c, if_pos (by omega), c, show 54 + i - 54 = i by omega]
    · rw [if_neg c]
      by_cases c2 : 54 ≤ j ∧ j < 54 + i
      · rw [if_pos c2, if_pos (by omega)]
      · rw [if_neg c2, if_neg (by omega)]
  have e0 : wA A 331 (fun j => if 54 ≤ j ∧ j < 54 + 0 then ansA A k (v 4) (v 6) (f - 1 + (j - 54)) else mA A 331 j) = A := by
    have : (fun j => if 54 ≤ j ∧ j < 54 + 0 then ansA A k (v 4) (v 6) (f - 1 + (j - 54)) else mA A 331 j) = mA A 331 := by
      funext j
      rw [if_neg (by omega)]
    rw [this]
    exact wA_mA A _
  have lpe := lp0 (fun m i => fX16_dataOut_L3 fu m 323 (some (342 + 4 * k)) (b0 + nI f) (nI n) fin (nI i) (wA A 331 (fun j => if 54 ≤ j ∧ j < 54 + i then ansA A k (v 4) (v 6) (f - 1 + (j - 54)) else mA A 331 j))) step (fu := fu) (by omega)
  simp only [e0] at lpe
  refine ⟨fu - n - 1, Eq.trans lpe ?_⟩
  rw [show fu - n - 1 + 1 = fu - n by omega]
theorem ofHead {n hl o : Nat} (h1 : n < 2 ^ 30) (h2 : hl < 2 ^ 30) (h3 : o < 2 ^ 30) : jmax (0 : Int32) (jmin (nI n) (nI hl - nI o)) = nI (min n (hl - o)) := by
  by_cases h : o ≤ hl
  · rw [nI_sub h, jmin_nI (by omega) (by omega)]
    have := jmax_nI (a := 0) (b := min n (hl - o)) (by decide) (by omega)
    rw [Nat.max_eq_right (by omega)] at this
    exact this
  · have hneg : nI hl - nI o < 0 := pk_sneg h3 (by omega)
    have h5 : nI hl - nI o < nI n := by
      refine Int32.lt_of_lt_of_le hneg (nI_0le (by omega))
    unfold jmin
    rw [if_pos h5]
    unfold jmax
    rw [if_neg (fun q => Int32.lt_asymm hneg q), show hl - o = 0 by omega, Nat.min_zero]
    rfl
theorem x_copy (fu : Nat) (hW : XW M) (hB : By M) {c im ig hl bl bp o n : Nat} (hC : CnO M c) (e1 : (mF M 78 c) = nI hl) (e2 : bl ≠ 0 → (mF M 75 c) = nI bp ∧ bp + bl ≤ im) (hig : (mG M 512 301) = some ig) (hio : okA M 100 ig) (hil : sLen (mS M) ig = im) (him : im ≤ 65535) (hi308 : ig ≠ 308) (hl1 : hl ≤ 256) (bl1 : bl ≤ 65535) (hn : n ≤ 1460) (hon : o + n ≤ hl + bl) (hfu : 2000 ≤ fu) :
    fX9_copyAnswer fu 317 (some c) (nI o) (nI n) M = some (wA M 308 (fun j => if 54 ≤ j ∧ j < 54 + n then ansX M c ig hl bp (o + (j - 54)) else mA M 308 j)) := by
  obtain ⟨c1, c2, c3, c4, c5, c6, c7, c8, c9, c10, c11, c12, c13, hM⟩ := hC
  unfold fX9_copyAnswer
  have l1 : nI n ≤ ((1514 : Int32) - (54 : Int32)) := by
    rw [show (1514 : Int32) - (54 : Int32) = nI 1460 from by decide]
    exact nI_le hn (by decide)
  rw [if_neg (nI_pos (by omega)), if_neg (nI_pos (by omega)), if_pos l1, gI_ok c1, ob_some, e1, ofHead (by omega) (by omega) (by omega)]
  have hW1 : ∀ g, XW (wA M 308 g) := fun g => hW
  have n308 : c + 1 ≠ 308 := fun e => by
    have : c = 307 := by omega
    subst this
    exact absurd (c1.2.2.symm.trans (xw_ok307 hW).2.2) (by decide)
  have step : ∀ m i, i < min n (hl - o) → fX9_copyAnswer_L42 fu (m + 1) 317 (some c) (nI o) (nI n) 54 (nI (min n (hl - o))) (nI i) (wA M 308 (fun j => if 54 ≤ j ∧ j < 54 + i then mA M (c + 1) (o + (j - 54)) else mA M 308 j)) = fX9_copyAnswer_L42 fu m 317 (some c) (nI o) (nI n) 54 (nI (min n (hl - o))) (nI (i + 1)) (wA M 308 (fun j => if 54 ≤ j ∧ j < 54 + (i + 1) then mA M (c + 1) (o + (j - 54)) else mA M 308 j)) := by
    intro m i hi
    have e54 : (54 : Int32) + nI i = nI (54 + i) := nI_add 54 i
    have on1 : ∀ G, fX11_one fu (some (c + 1)) (nI o + nI i) (wA M 308 G) = some (u8 (mA M (c + 1) (o + i)), wA M 308 G) := fun G => by
      rw [nI_add]
      have := x_one (M := wA M 308 G) fu (a := c + 1) c5 (by show sLen (mS M) (c + 1) < 2 ^ 30; rw [c6]; decide) (i := o + i) (by show o + i < sLen (mS M) (c + 1); omega)
      rw [mA_wA_ne n308] at this
      exact this
    have d1 : ∀ G, okA (wA M 308 G) 1 c := fun G => c1
    rw [fX9_copyAnswer_L42, if_neg (nI_ge hi (by omega)), gR_ok (xw_ok317 (hW1 _)), ob_some, xw_g577_317 (hW1 _), gR_ok (xw_ok307 (hW1 _)), ob_some, xw_g256_307 (hW1 _), gR_ok (d1 _), ob_some, mG_wA, c2, on1, b2_some, byt_u8 _ (hB _ _ c5.2.2), e54, pA_ok (xw_ok308 (hW1 _)) (by rw [xw_ln308 (hW1 _)]; omega) (by omega), ob_some, nI_1, wA_wA, mA_wA_self]
    refine congrArg (fun z => fX9_copyAnswer_L42 fu m 317 (some c) (nI o) (nI n) 54 (nI (min n (hl - o))) (nI (i + 1)) (wA M 308 z)) ?_
    funext j
    by_cases cj : j = 54 + i
    · rw [if_pos cj, if_pos (by omega), cj, show 54 + i - 54 = i by omega]
    · rw [if_neg cj]
      by_cases c2' : 54 ≤ j ∧ j < 54 + i
      · rw [if_pos c2', if_pos (by omega)]
      · rw [if_neg c2', if_neg (by omega)]
  have e0 : wA M 308 (fun j => if 54 ≤ j ∧ j < 54 + 0 then mA M (c + 1) (o + (j - 54)) else mA M 308 j) = M := by
    have : (fun j => if 54 ≤ j ∧ j < 54 + 0 then mA M (c + 1) (o + (j - 54)) else mA M 308 j) = mA M 308 := by
      funext j
      rw [if_neg (by omega)]
    rw [this]
    exact wA_mA M _
  have lpe := lp0 (fun m i => fX9_copyAnswer_L42 fu m 317 (some c) (nI o) (nI n) 54 (nI (min n (hl - o))) (nI i) (wA M 308 (fun j => if 54 ≤ j ∧ j < 54 + i then mA M (c + 1) (o + (j - 54)) else mA M 308 j))) step (fu := fu) (by omega)
  simp only [e0] at lpe
  refine Eq.trans lpe ?_
  obtain ⟨m, hm⟩ : ∃ m, fu - min n (hl - o) = m + 1 := ⟨fu - min n (hl - o) - 1, by omega⟩
  have d1 : ∀ G, okA (wA M 308 G) 1 c := fun G => c1
  have esub : nI n - nI (min n (hl - o)) = nI (n - min n (hl - o)) := nI_sub (by omega)
  rw [hm, fX9_copyAnswer_L42, if_pos (Int32.le_refl _), gI_ok (d1 _), ob_some, gI_ok (d1 _), ob_some, mF_wA, e1, esub]
  by_cases cb : n ≤ hl - o
  · rw [show n - min n (hl - o) = 0 by omega, if_pos (by decide)]
    refine congrArg (fun z => some (wA M 308 z)) ?_
    funext j
    unfold ansX
    by_cases cj : 54 ≤ j ∧ j < 54 + n
    · rw [if_pos (by omega), if_pos cj, if_pos (by omega)]
    · rw [if_neg (by omega), if_neg cj]
  · obtain ⟨q1, q2⟩ := e2 (by omega)
    have hmin : min n (hl - o) = hl - o := by omega
    have efr : ((nI bp + nI o) + nI (hl - o)) - nI hl = nI (bp + o + (hl - o) - hl) := by rw [nI_add, nI_add, nI_sub (by omega)]
    have n31 : bp + o + (hl - o) - hl < 2 ^ 31 := by omega
    have elen : nI (bp + o + (hl - o) - hl) + nI (n - (hl - o)) = nI (bp + o + (hl - o) - hl + (n - (hl - o))) := nI_add _ _
    have e54 : (54 : Int32) + nI (hl - o) = nI (54 + (hl - o)) := nI_add 54 _
    have d8 : ∀ G, okA (wA M 308 G) 8 301 := fun G => xw_ok301 hW
    have dig : ∀ G, okA (wA M 308 G) 100 ig := fun G => hio
    rw [hmin, if_neg (nI_nle (by omega) (by omega)), q1, efr, if_neg (nI_pos n31), gR_ok (xw_ok317 (hW1 _)), ob_some, xw_g578_317 (hW1 _), gR_ok (d8 _), ob_some, mG_wA, hig, aL_ok (dig _) (show sLen (mS (wA M 308 _)) ig = im from hil), ob_some, elen, if_neg (nI_nlt (by omega) (by omega)), ob_some, gR_ok (d8 _), ob_some, mG_wA, hig, gR_ok (xw_ok317 (hW1 _)), ob_some, xw_g577_317 (hW1 _), gR_ok (xw_ok307 (hW1 _)), ob_some, xw_g256_307 (hW1 _), e54, cpB_ok (dig _) (xw_ok308 (hW1 _)) hi308 (by show _ ≤ sLen (mS M) ig; omega) (by rw [xw_ln308 (hW1 _)]; omega) (by show sLen (mS M) ig < 2 ^ 30; omega) (by rw [xw_ln308 (hW1 _)]; decide), ob_some, sC_wA2, wA_wA, mA_wA_self, mA_wA_ne hi308]
    refine congrArg (fun z => some (wA M 308 z)) ?_
    funext j
    unfold ansX
    by_cases cj : 54 ≤ j ∧ j < 54 + n
    · rw [if_pos cj]
      by_cases ch : j < 54 + (hl - o)
      · rw [if_neg (by omega), if_pos (by omega), if_pos (by omega)]
      · rw [if_pos (by omega), if_neg (by omega)]
        refine congrArg (mA M ig) ?_
        omega
    · rw [if_neg (by omega), if_neg (by omega), if_neg cj]
end Copy
