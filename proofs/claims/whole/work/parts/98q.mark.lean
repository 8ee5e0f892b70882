/-! ===== part 98q: the mark of a file, in both ===== -/
theorem sr_bv (x : BitVec 32) (s : Nat) (h : s ≤ 28) : x.sshiftRight s &&& 15#32 = x >>> s &&& 15#32 := by
  apply BitVec.eq_of_getLsbD_eq
  intro i hi
  rw [BitVec.getLsbD_and, BitVec.getLsbD_and, BitVec.getLsbD_sshiftRight, BitVec.getLsbD_ushiftRight, b15 i hi]
  by_cases q : i < 4
  · have h1 : s + i < 32 := by omega
    simp [q, h1]
    intro _
    omega
  · simp [q]
theorem sr_eq (v : Int32) : ∀ i, i < 8 → ((v >>> (((28 : Int32) - ((4 : Int32) * nI i)) &&& 31)) &&& (15 : Int32)) = ((ushr v ((28 : Int32) - ((4 : Int32) * nI i))) &&& (15 : Int32)) := fun i hi => by
  apply Int32.toBitVec_inj.mp
  match i, hi with
  | 0, _ => exact sr_bv v.toBitVec 28 (by decide)
  | 1, _ => exact sr_bv v.toBitVec 24 (by decide)
  | 2, _ => exact sr_bv v.toBitVec 20 (by decide)
  | 3, _ => exact sr_bv v.toBitVec 16 (by decide)
  | 4, _ => exact sr_bv v.toBitVec 12 (by decide)
  | 5, _ => exact sr_bv v.toBitVec 8 (by decide)
  | 6, _ => exact sr_bv v.toBitVec 4 (by decide)
  | 7, _ => exact sr_bv v.toBitVec 0 (by decide)
/-- the code of a digit -/
def hdg (v : Int32) (i : Nat) : Int32 := if (10 : Int32) ≤ (ushr v ((28 : Int32) - ((4 : Int32) * nI i))) &&& (15 : Int32) then ((97 : Int32) + ((ushr v ((28 : Int32) - ((4 : Int32) * nI i))) &&& (15 : Int32))) - (10 : Int32) else (48 : Int32) + ((ushr v ((28 : Int32) - ((4 : Int32) * nI i))) &&& (15 : Int32))
theorem m_hexDigit (fu : Nat) (v : Int32) {i : Nat} (hi : i < 8) (A : Mm) : fX16_hexDigit fu v (nI i) A = some (hdg v i, A) := by
  unfold fX16_hexDigit hdg
  rw [ob_some, sr_eq v i hi]
  split <;> rfl
theorem x_hexCode (fu : Nat) (v : Int32) (i : Nat) (M : Mm) : fX11_hexCode fu (ushr v ((28 : Int32) - ((4 : Int32) * nI i))) M = some (hdg v i, M) := by
  unfold fX11_hexCode hdg
  split <;> rfl
section Mark
variable {A M : Mm} {H : Nat → Nat} {n F ek im : Nat}
theorem x_markOf (fu : Nat) (hW : XW M) (hf : FI F ek im A M) {r : Nat} (hr : r < F) : fX8_markOf fu 301 (nI r) M = some (mA A 329 r, M) ∧ fX8_placeOf fu 301 (nI r) M = some (mA A 327 r, M) ∧ fX8_sizeOf fu 301 (nI r) M = some (mA A 328 r, M) := by
  have l0 := hf.le
  have l1 := hf.l1
  have l2 := hf.l2
  obtain ⟨n1, n2, n3⟩ := hf.nu r hr
  have o := xw_ok301 hW
  have e64 : nI r * (64 : Int32) = nI (64 * r) := by rw [show (64 : Int32) = nI 64 from rfl, pk_mul, Nat.mul_comm]
  have e48 : nI (64 * r) + (48 : Int32) = nI (64 * r + 48) := nI_add _ 48
  unfold fX8_markOf fX8_placeOf fX8_sizeOf
  rw [gR_ok o, ob_some, hf.ge, ob_some, ob_some, e64, e48, show nI (64 * r + 48) + (8 : Int32) = nI (64 * r + 56) from nI_add _ 8, show nI (64 * r + 48) + (4 : Int32) = nI (64 * r + 52) from nI_add _ 4, x_four fu hf.oe (by omega) (by omega), b2_some, x_four fu hf.oe (by omega) (by omega), b2_some, x_four fu hf.oe (by omega) (by omega), b2_some, n1, n2, n3]
  exact ⟨rfl, rfl, rfl⟩
theorem sp_mark (fu : Nat) (hfu : 5000 ≤ fu) (hR : RW A) (hB : By A) (hW : XW M) (h : HD H n A M) (hf : FI F ek im A M) {f t r : Nat} (h1 : f ≤ t) (h2 : t ≤ n) (hr : r < F) (a1 : (mF A 1085 323) = nI f) (a2 : (mF A 1086 323) = nI t) (m1 : (mF M 462 319) = nI f) (m2 : (mF M 463 319) = nI t) (m3 : mF M 466 319 = nI r) :
    (fX16_fits fu 323 (nI r) A = some (1, A) ∧ fX7_isMark fu 319 M = some (1, M)) ∨ (fX16_fits fu 323 (nI r) A = some (0, A) ∧ fX7_isMark fu 319 M = some (0, M)) := by
  have hn := h.1
  have o := rw_ok323 hR
  have o7 := xw_ok319 hW
  have g5 := xw_g450_319 hW
  have hb : ∀ i, H i < 256 := h.2.1
  have l0 := hf.le
  unfold fX16_fits fX7_isMark
  rw [gI_ok o, ob_some, gI_ok o, ob_some, a1, a2, rc_ok o, ob_some, m_says fu (by omega) hR h (by decide) h1 h2, b2_some, if10, gI_ok o7, ob_some, gI_ok o7, ob_some, m1, m2, rc_ok o7, ob_some, x_isText fu (by omega) hW h (by decide) h1 h2, b2_some, if10]
  by_cases q1 : eqT id H f t 13
  · left
    rw [if_pos q1, if_pos q1, rN1, rN1]
    exact ⟨rfl, rfl⟩
  rw [if_neg q1, if_neg q1, gI_ok o, ob_some, gI_ok o, ob_some, a1, a2, gI_ok o7, ob_some, gI_ok o7, ob_some, m1, m2]
  have e10 : (nI t - nI f = (10 : Int32)) ↔ t = f + 10 := sub_eq (l := 10) h1 (by omega) (by decide)
  by_cases q2 : t = f + 10
  rotate_left
  · right
    rw [if_neg (fun e => q2 (e10.mp e)), if_neg (fun e => q2 (e10.mp e)), rN0, rN0]
    exact ⟨rfl, rfl⟩
  obtain ⟨v, v1, v2⟩ := m_hd hR hB h (i := f) (by omega)
  obtain ⟨w, w1, w2⟩ := m_hd hR hB h (i := t - 1) (by omega)
  have et : nI t - (1 : Int32) = nI (t - 1) := nI_sub (y := 1) (by omega)
  rw [if_pos (e10.mpr q2), if_pos (e10.mpr q2), gR_ok o, ob_some, rw_g1065_323 hR, ob_some, v1, ob_some, gR_ok o7, g5, ob_some, ob_some, ob_some, ob_some, x_oneH fu hW h (by omega), b2_some]
  by_cases q3 : H f = 34
  rotate_left
  · right
    rw [if_neg (show ¬ v = (34 : Int32) from fun e => q3 ((v2 34 (by decide)).mp e)), if_neg (show ¬ nI (H f) = (34 : Int32) from fun e => q3 ((nI_eq (b := 34) (by have := hb f; omega) (by decide)).mp e)), rN0, rN0]
    exact ⟨rfl, rfl⟩
  rw [if_pos (show v = (34 : Int32) from (v2 34 (by decide)).mpr q3), if_pos (show nI (H f) = (34 : Int32) by rw [q3]; rfl), et, w1, ob_some, gR_ok o7, ob_some, g5, gI_ok o7, ob_some, m2, et, x_oneH fu hW h (by omega), b2_some]
  by_cases q4 : H (t - 1) = 34
  rotate_left
  · right
    rw [if_neg (show ¬ w = (34 : Int32) from fun e => q4 ((w2 34 (by decide)).mp e)), if_neg (show ¬ nI (H (t - 1)) = (34 : Int32) from fun e => q4 ((nI_eq (b := 34) (by have := hb (t - 1); omega) (by decide)).mp e)), rN0, rN0]
    exact ⟨rfl, rfl⟩
  rw [if_pos (show w = (34 : Int32) from (w2 34 (by decide)).mpr q4), if_pos (show nI (H (t - 1)) = (34 : Int32) by rw [q4]; rfl), gR_ok o7, ob_some, xw_g448_319 hW, gI_ok o7, ob_some, m3, rc_ok (xw_ok301 hW), ob_some, (x_markOf fu hW hf hr).1, b2_some]
  have hA := lpAll (fun m i => fX16_fits_L68 fu m 323 (nI r) (nI i) A) 8 (fun i => nI (H (f + 1 + i)) = hdg (mA A 329 r) i) (some ((1 : Int32), A)) (some ((0 : Int32), A)) (fun m i hi hq => by
    rw [fX16_fits_L68, if_neg (show ¬ (8 : Int32) ≤ nI i from nI_ge (b := 8) hi (by decide)), gI_ok o, ob_some, a1, rc_ok o, ob_some, nI_1, nI_add, m_headAt fu hR h (by omega), b2_some, gR_ok o, ob_some, rw_g1040_323 hR, gA_ok (rw_ok329 hR) (by rw [rw_ln329 hR]; omega) (by omega), ob_some, m_hexDigit fu _ hi, b2_some, if_pos hq, nI_1]) (fun m i hi hq => by
    rw [fX16_fits_L68, if_neg (show ¬ (8 : Int32) ≤ nI i from nI_ge (b := 8) hi (by decide)), gI_ok o, ob_some, a1, rc_ok o, ob_some, nI_1, nI_add, m_headAt fu hR h (by omega), b2_some, gR_ok o, ob_some, rw_g1040_323 hR, gA_ok (rw_ok329 hR) (by rw [rw_ln329 hR]; omega) (by omega), ob_some, m_hexDigit fu _ hi, b2_some, if_neg hq, rN0]) (fun m => by
    rw [fX16_fits_L68, if_pos (show (8 : Int32) ≤ nI 8 by decide), rN1]) (fu := fu) (by omega)
  have hX := lpAll (fun m i => fX7_isMark_L83 fu m 319 (mA A 329 r) (nI i) M) 8 (fun i => nI (H (f + 1 + i)) = hdg (mA A 329 r) i) (some ((1 : Int32), M)) (some ((0 : Int32), M)) (fun m i hi hq => by
    rw [fX7_isMark_L83, if_neg (show ¬ (8 : Int32) ≤ nI i from nI_ge (b := 8) hi (by decide)), gR_ok o7, ob_some, g5, gI_ok o7, ob_some, m1, nI_1, nI_add, x_oneH fu hW h (by omega), b2_some, x_hexCode fu, b2_some, if_pos hq, nI_1]) (fun m i hi hq => by
    rw [fX7_isMark_L83, if_neg (show ¬ (8 : Int32) ≤ nI i from nI_ge (b := 8) hi (by decide)), gR_ok o7, ob_some, g5, gI_ok o7, ob_some, m1, nI_1, nI_add, x_oneH fu hW h (by omega), b2_some, x_hexCode fu, b2_some, if_neg hq, rN0]) (fun m => by
    rw [fX7_isMark_L83, if_pos (show (8 : Int32) ≤ nI 8 by decide), rN1]) (fu := fu) (by omega)
  rcases hA with ⟨y1, y2⟩ | ⟨y1, y2⟩
  · rcases hX with ⟨z1, z2⟩ | ⟨z1, z2⟩
    · exact Or.inl ⟨y2, z2⟩
    · exact absurd y1 z1
  · rcases hX with ⟨z1, z2⟩ | ⟨z1, z2⟩
    · exact absurd z1 y1
    · exact Or.inr ⟨y2, z2⟩
end Mark
