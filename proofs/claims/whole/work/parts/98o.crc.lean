/-! ===== part 98o: the check of a file, in both ===== -/
def crF (x : BitVec 32) : BitVec 32 := (x >>> 1) ^^^ (if x.getLsbD 0 then 3988292384#32 else 0#32)
theorem crF_lin (x y : BitVec 32) : crF (x ^^^ y) = crF x ^^^ crF y := by
  unfold crF
  rw [BitVec.getLsbD_xor, BitVec.ushiftRight_xor_distrib]
  cases hx : x.getLsbD 0 <;> cases hy : y.getLsbD 0
  · simp
  · simp only [Bool.false_xor, Bool.false_eq_true, if_false, if_true, BitVec.xor_zero]
    ac_rfl
  · simp only [Bool.xor_false, Bool.false_eq_true, if_false, if_true, BitVec.xor_zero]
    ac_rfl
  · simp only [Bool.xor_self, Bool.false_eq_true, if_false, if_true, BitVec.xor_zero]
    rw [show x >>> 1 ^^^ 3988292384#32 ^^^ (y >>> 1 ^^^ 3988292384#32) = x >>> 1 ^^^ y >>> 1 ^^^ (3988292384#32 ^^^ 3988292384#32) by ac_rfl, BitVec.xor_self, BitVec.xor_zero]
theorem crF_up (y : BitVec 32) (h : y.toNat < 2 ^ 31) : crF (y <<< 1) = y := by
  unfold crF
  have hb : (y <<< 1).getLsbD 0 = false := by simp
  rw [hb, if_neg (by decide), BitVec.xor_zero]
  apply BitVec.eq_of_toNat_eq
  rw [BitVec.toNat_ushiftRight, BitVec.toNat_shiftLeft, Nat.shiftLeft_eq, Nat.shiftRight_eq_div_pow]
  omega
def crF4 (x : BitVec 32) : BitVec 32 := crF (crF (crF (crF x)))
theorem crF4_lin (x y : BitVec 32) : crF4 (x ^^^ y) = crF4 x ^^^ crF4 y := by
  unfold crF4
  rw [crF_lin, crF_lin, crF_lin, crF_lin]
theorem sh_lt (y : BitVec 32) (k : Nat) (h : y.toNat * 2 ^ k < 2 ^ 31) : (y <<< k).toNat < 2 ^ 31 := by
  rw [BitVec.toNat_shiftLeft, Nat.shiftLeft_eq, Nat.mod_eq_of_lt (by omega)]
  exact h
theorem crF4_up (y : BitVec 32) (h : y.toNat < 2 ^ 28) : crF4 (y <<< 4) = y := by
  unfold crF4
  have e1 : y <<< 4 = (y <<< 3) <<< 1 := by rw [← BitVec.shiftLeft_add]
  have e2 : y <<< 3 = (y <<< 2) <<< 1 := by rw [← BitVec.shiftLeft_add]
  have e3 : y <<< 2 = (y <<< 1) <<< 1 := by rw [← BitVec.shiftLeft_add]
  rw [e1, crF_up _ (sh_lt y 3 (by omega)), e2, crF_up _ (sh_lt y 2 (by omega)), e3, crF_up _ (sh_lt y 1 (by omega)), crF_up _ (by omega)]
theorem b15 : ∀ i, i < 32 → (15#32).getLsbD i = decide (i < 4) := by decide
theorem bv_split (x : BitVec 32) : x = ((x >>> 4) <<< 4) ^^^ (x &&& 15#32) := by
  apply BitVec.eq_of_getLsbD_eq
  intro i hi
  rw [BitVec.getLsbD_xor, BitVec.getLsbD_and, BitVec.getLsbD_shiftLeft, BitVec.getLsbD_ushiftRight, b15 i hi]
  by_cases q : i < 4
  · simp [q]
  · simp [q, hi, show 4 + (i - 4) = i by omega]
theorem cr_tab : ∀ k, k < 16 → crF4 (BitVec.ofNat 32 k) = (stpT.getD k 0).toBitVec := by decide +kernel
theorem crF4_eq (x : BitVec 32) : crF4 x = (x >>> 4) ^^^ (stpT.getD (x.toNat % 16) 0).toBitVec := by
  have h1 : (x >>> 4).toNat < 2 ^ 28 := by
    rw [BitVec.toNat_ushiftRight, Nat.shiftRight_eq_div_pow]
    have := x.isLt
    omega
  have h2 : x &&& 15#32 = BitVec.ofNat 32 (x.toNat % 16) := by
    apply BitVec.eq_of_toNat_eq
    rw [BitVec.toNat_and, BitVec.toNat_ofNat, BitVec.toNat_ofNat, show 15 % 2 ^ 32 = 2 ^ 4 - 1 by decide, Nat.and_two_pow_sub_one_eq_mod]
    omega
  have e := congrArg crF4 (bv_split x)
  rw [crF4_lin, crF4_up _ h1, h2, cr_tab _ (Nat.mod_lt _ (by decide))] at e
  exact e
/-- a step of the reference, a step of the class -/
def crS (c : Int32) : Int32 := if (c &&& (1 : Int32)) = (1 : Int32) then (ushr c (1 : Int32)) ^^^ (-306674912 : Int32) else ushr c (1 : Int32)
def crG (c : Int32) : Int32 := (ushr c (4 : Int32)) ^^^ (stpT.getD (c.toBitVec.toNat % 16) 0)
theorem ushr_bv (a : Int32) : (ushr a 1).toBitVec = a.toBitVec >>> 1 ∧ (ushr a 4).toBitVec = a.toBitVec >>> 4 := ⟨rfl, rfl⟩
theorem b1 : ∀ i, i < 32 → (1#32).getLsbD i = decide (i = 0) := by decide
theorem and1_bv (x : BitVec 32) : x &&& 1#32 = if x.getLsbD 0 then 1#32 else 0#32 := by
  apply BitVec.eq_of_getLsbD_eq
  intro i hi
  rw [BitVec.getLsbD_and, b1 i hi]
  by_cases q : i = 0
  · subst q
    cases h : x.getLsbD 0 <;> simp
  · cases h : x.getLsbD 0 <;> simp [q, b1 i hi]
theorem crS_bv (c : Int32) : (crS c).toBitVec = crF c.toBitVec := by
  have h1 : ((c &&& (1 : Int32)) = (1 : Int32)) ↔ c.toBitVec.getLsbD 0 = true := by
    have e : (c &&& (1 : Int32)).toBitVec = c.toBitVec &&& 1#32 := rfl
    rw [and1_bv] at e
    constructor
    · intro h
      rw [h] at e
      cases hb : c.toBitVec.getLsbD 0
      · rw [hb, if_neg (by decide)] at e
        exact absurd e (by decide)
      · rfl
    · intro h
      rw [h, if_pos rfl] at e
      exact Int32.toBitVec_inj.mp e
  unfold crS crF
  by_cases q : c.toBitVec.getLsbD 0 = true
  · rw [if_pos (h1.mpr q), if_pos q, ← (ushr_bv c).1]
    rfl
  · rw [if_neg (fun e => q (h1.mp e)), if_neg q, BitVec.xor_zero, (ushr_bv c).1]
theorem crG_eq (c : Int32) : crS (crS (crS (crS c))) = crG c := by
  apply Int32.toBitVec_inj.mp
  rw [crS_bv, crS_bv, crS_bv, crS_bv]
  refine (crF4_eq c.toBitVec).trans ?_
  unfold crG
  rw [← (ushr_bv c).2]
  rfl
def crN (c : Int32) : Nat → Int32
  | 0 => c
  | j + 1 => crS (crN c j)
theorem crN8 (c : Int32) : crN c 8 = crG (crG c) := by
  show crS (crS (crS (crS (crS (crS (crS (crS c))))))) = _
  rw [crG_eq, crG_eq]
section Crc
variable {A M : Mm}
theorem gST_ok (c : Int32) : gST (c &&& (15 : Int32)) = some (stpT.getD (c.toBitVec.toNat % 16) 0) := by
  have e : c &&& (15 : Int32) = nI (c.toBitVec.toNat % 16) := by
    apply Int32.toBitVec_inj.mp
    apply BitVec.eq_of_toNat_eq
    rw [pk_tn (by omega)]
    show (c.toBitVec &&& 15#32).toNat = _
    rw [BitVec.toNat_and, BitVec.toNat_ofNat, show 15 % 2 ^ 32 = 2 ^ 4 - 1 by decide, Nat.and_two_pow_sub_one_eq_mod]
  unfold gST
  rw [e, nI_clamp (by omega), if_pos ⟨nI_pos (by omega), Nat.mod_lt _ (by decide)⟩]
/-- the check over bytes -/
def crB (g : Nat → Int32) (p : Nat) : Nat → Int32
  | 0 => -1
  | j + 1 => crG (crG (crB g p j ^^^ (g (p + j) &&& (255 : Int32))))
theorem m_bits (fu : Nat) (hfu : 100 ≤ fu) (k5 : Nat → Int32 → Int32 → Int32 → Mm → Option (Int32 × Mm)) (a2 c a4 : Int32) : fX16_check_L28 fu k5 fu 323 a2 c a4 0 A = k5 323 a2 (crG (crG c)) (a4 + 1) A := by
  have := lp (fun m j => fX16_check_L28 fu k5 m 323 a2 (crN c j) a4 (nI j) A) (i := 0) (k := 8) (by decide) (fun m j _ hj => by
    rw [fX16_check_L28, if_neg (show ¬ (8 : Int32) ≤ nI j from nI_ge (b := 8) hj (by decide))]
    unfold fX16_check_L54
    rw [nI_1]
    show _ = fX16_check_L28 fu k5 m 323 a2 (crS (crN c j)) a4 (nI (j + 1)) A
    unfold crS
    by_cases q : (crN c j &&& (1 : Int32)) = (1 : Int32)
    · rw [if_pos q, if_pos q]
    · rw [if_neg q, if_neg q]) (fu - 8)
  rw [show fu - 8 + (8 - 0) = fu by omega] at this
  refine this.trans ?_
  show fX16_check_L28 fu k5 (fu - 8) 323 a2 (crN c 8) a4 (nI 8) A = _
  rw [show fu - 8 = (fu - 9) + 1 by omega, fX16_check_L28, if_pos (show (8 : Int32) ≤ nI 8 by decide), crN8]
theorem m_check (fu : Nat) (hfu : 70000 ≤ fu) (hR : RW A) {p q : Nat} (h1 : p ≤ q) (h2 : q ≤ 65535) : fX16_check fu 323 (nI p) (nI q) A = some (crB (mA A 325) p (q - p) ^^^ (-1 : Int32), A) := by
  have o := rw_ok323 hR
  unfold fX16_check
  have := lp (fun m j => fX16_check_L5 fu m 323 (nI q) (crB (mA A 325) p j) (nI (p + j)) A) (i := 0) (k := q - p) (by omega) (fun m j _ hj => by
    rw [fX16_check_L5, if_neg (nI_ge (by omega) (by omega)), gR_ok o, ob_some, rw_g1026_323 hR, gA_ok (rw_ok325 hR) (by rw [rw_ln325 hR]; omega) (by omega), ob_some, m_bits fu (by omega), nI_1, Nat.add_assoc]
    rfl) (fu - (q - p))
  rw [show fu - (q - p) + (q - p - 0) = fu by omega] at this
  refine this.trans ?_
  show fX16_check_L5 fu (fu - (q - p)) 323 (nI q) (crB (mA A 325) p (q - p)) (nI (p + (q - p))) A = _
  rw [show fu - (q - p) = (fu - (q - p) - 1) + 1 by omega, fX16_check_L5, if_pos (nI_le (by omega) (by omega))]
theorem crB_congr {g g' : Nat → Int32} {p : Nat} : ∀ j, (∀ i, i < j → g (p + i) = g' (p + i)) → crB g p j = crB g' p j
  | 0, _ => rfl
  | j + 1, h => by
    show crG (crG (crB g p j ^^^ _)) = crG (crG (crB g' p j ^^^ _))
    rw [crB_congr j (fun i hi => h i (by omega)), h j (by omega)]
theorem x_check (fu : Nat) (hfu : 70000 ≤ fu) (hW : XW M) {im ig : Nat} (hj : JI im ig A M) {p l : Nat} (h2 : p + l ≤ im) : fX8_checkOf fu 301 (nI p) (nI l) M = some (crB (mA A 325) p l ^^^ (-1 : Int32), M) := by
  obtain ⟨j1, j2, j3, j4, j5, -⟩ := hj
  have o := xw_ok301 hW
  have mi : jmin (nI p + nI l) (nI im) = nI (p + l) := by
    rw [nI_add, jmin_nI (by omega) (by omega), Nat.min_eq_left h2]
  have ma : jmax (nI p) (0 : Int32) = nI p := by
    unfold jmax
    have h0 : ¬ nI p < 0 := nI_pos (by omega)
    simp [h0]
  unfold fX8_checkOf
  rw [gR_ok o, ob_some, j1, aL_ok j2 j3, ob_some, mi, ma, crB_congr (g' := mA M ig) l (fun i hi => j5 (p + i) (by omega))]
  have := lp (fun m j => fX8_checkOf_L22 fu m 301 (crB (mA M ig) p j) (nI (p + l)) (nI (p + j)) M) (i := 0) (k := l) (by omega) (fun m j _ hj => by
    rw [fX8_checkOf_L22, if_neg (nI_ge (by omega) (by omega)), gR_ok o, ob_some, j1, gA_ok j2 (by rw [j3]; omega) (by omega), ob_some, gST_ok, ob_some, ob_some, gST_ok, ob_some, nI_1, Nat.add_assoc]
    rfl) (fu - l)
  rw [show fu - l + (l - 0) = fu by omega] at this
  refine this.trans ?_
  show fX8_checkOf_L22 fu (fu - l) 301 (crB (mA M ig) p l) (nI (p + l)) (nI (p + l)) M = _
  rw [show fu - l = (fu - l - 1) + 1 by omega, fX8_checkOf_L22, if_pos (nI_le (Nat.le_refl _) (by omega))]
end Crc
