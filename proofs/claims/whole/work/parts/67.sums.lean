/-! ===== part 67: sums of 16 bits, in both systems ===== -/
/-- a byte as a number -/
def bN (x : Int32) : Nat := x.toBitVec.toNat % 256
theorem bN_lt (x : Int32) : bN x < 256 := Nat.mod_lt _ (by decide)
theorem u8_nI (x : Int32) : x &&& 255 = nI (bN x) := by
  obtain ⟨n, hn, rfl⟩ := wb_of32 x
  show nI n &&& nI 255 = _
  rw [nx_and, show (255 : Nat) = 2 ^ 8 - 1 from rfl, Nat.and_two_pow_sub_one_eq_mod]
  unfold bN
  congr 1
  show n % 2 ^ 8 = (BitVec.ofNat 32 n).toNat % 256
  rw [BitVec.toNat_ofNat, Nat.mod_eq_of_lt hn]
/-- the sum of n bytes from a place on, in pairs -/
def sm (g : Nat → Int32) (f : Nat) : Nat → Nat
  | 0 => 0
  | n + 1 => sm g f n + (if n % 2 = 0 then 256 else 1) * bN (g (f + n))
theorem sm_congr {g g' : Nat → Int32} {f f' : Nat} : ∀ n, (∀ j, j < n → g (f + j) = g' (f' + j)) → sm g f n = sm g' f' n
  | 0, _ => rfl
  | n + 1, h => by
    unfold sm
    rw [sm_congr n (fun j hj => h j (by omega)), h n (by omega)]
theorem sm_le (g : Nat → Int32) (f : Nat) : ∀ n, sm g f n ≤ 65280 * n
  | 0 => Nat.le_refl _
  | n + 1 => by
    have h1 := sm_le g f n
    have h2 := bN_lt (g (f + n))
    unfold sm
    split <;> omega
theorem shl8_nI {b : Nat} (h : b < 256) : nI b <<< ((8 : Int32) &&& 31) = nI (256 * b) := by
  rw [pk_shlN _ 8 (by decide) (by omega)]
  congr 1
  omega
def f16 (s : Nat) : Nat := s % 65536 + s / 65536
theorem f16_le {s : Nat} (h : s < 2 ^ 31) : f16 s ≤ 98302 := by unfold f16; omega
theorem f16_2 {s : Nat} (h : s < 2 ^ 31) : f16 (f16 s) ≤ 65535 := by
  have := f16_le h
  unfold f16 at *
  omega
theorem f16_id {s : Nat} (h : s ≤ 65535) : f16 s = s := by unfold f16; omega
theorem ushr16_nI {n : Nat} (h : n < 2 ^ 31) : ushr (nI n) 16 = nI (n / 65536) := by
  unfold ushr
  apply Int32.toBitVec_inj.mp
  show (UInt32.ofNat n >>> ((16 : Int32).toUInt32 &&& Int32.toUInt32 31)).toBitVec = BitVec.ofNat 32 (n / 65536)
  apply BitVec.eq_of_toNat_eq
  show (UInt32.ofNat n >>> ((16 : Int32).toUInt32 &&& Int32.toUInt32 31)).toNat = _
  rw [UInt32.toNat_shiftRight, show ((16 : Int32).toUInt32 &&& Int32.toUInt32 31).toNat % 32 = 16 from by decide]
  have h1 : (UInt32.ofNat n).toNat = n := Nat.mod_eq_of_lt (by show n < 4294967296; omega)
  rw [h1, BitVec.toNat_ofNat, Nat.shiftRight_eq_div_pow, Nat.mod_eq_of_lt]
  have : n / 65536 ≤ n := Nat.div_le_self _ _
  show n / 65536 < 4294967296
  omega
theorem fold_nI {n : Nat} (h : n < 2 ^ 31) : (nI n &&& (65535 : Int32)) + ushr (nI n) (16 : Int32) = nI (f16 n) := by
  rw [nx_mod, ushr16_nI h, nI_add]
  rfl
section Sums
variable {M : Mm} {a : Nat}
theorem x_added_L (h : okA M 100 a) (hl : sLen (mS M) a < 2 ^ 30) (fu f e : Nat) (he : f + e ≤ sLen (mS M) a) (s0 : Nat) (hb : s0 + sm (mA M a) f e < 2 ^ 31) :
    ∀ (n k : Nat), 2 * k ≤ e + 1 → e ≤ 2 * k + 2 * n → fX11_added_L20 fu (n + 1) (some a) (nI (s0 + sm (mA M a) f (if 2 * k ≤ e then 2 * k else e))) (nI (f + e)) (nI (f + 2 * k)) M = some (nI (f16 (f16 (s0 + sm (mA M a) f e))), M) := by
  have hle : ∀ q, q ≤ e → sm (mA M a) f q ≤ sm (mA M a) f e := by
    intro q hq
    obtain ⟨d, rfl⟩ : ∃ d, e = q + d := ⟨e - q, by omega⟩
    clear hb he hq
    induction d with
    | zero => exact Nat.le_refl _
    | succ d ih => exact Nat.le_trans ih (by show _ ≤ sm (mA M a) f (q + d) + _; omega)
  have hend : ∀ n k, 2 * k ≤ e + 1 → e ≤ 2 * k → fX11_added_L20 fu (n + 1) (some a) (nI (s0 + sm (mA M a) f (if 2 * k ≤ e then 2 * k else e))) (nI (f + e)) (nI (f + 2 * k)) M = some (nI (f16 (f16 (s0 + sm (mA M a) f e))), M) := by
    intro n k h1 h2
    have e1 : (if 2 * k ≤ e then 2 * k else e) = e := by split <;> omega
    rw [e1, fX11_added_L20, if_pos (nI_le (by omega) (by omega)), ob_some, fold_nI hb, fold_nI (by have := f16_le hb; omega)]
  intro n
  induction n with
  | zero => intro k h1 h2; exact hend 0 k h1 (by omega)
  | succ n ih =>
    intro k h1 h2
    by_cases h3 : e ≤ 2 * k
    · exact hend _ k h1 h3
    · rw [fX11_added_L20, if_neg (nI_ge (by omega) (by omega)), gA_ok h (by omega) (by omega), ob_some, ob_some, if_pos (show 2 * k ≤ e by omega)]
      have e5 : (mA M a (f + 2 * k) &&& (255 : Int32)) <<< ((8 : Int32) &&& 31) = nI (256 * bN (mA M a (f + 2 * k))) := by rw [u8_nI, shl8_nI (bN_lt _)]
      have s1 : sm (mA M a) f (2 * k + 1) = sm (mA M a) f (2 * k) + 256 * bN (mA M a (f + 2 * k)) := by
        show sm (mA M a) f (2 * k) + (if 2 * k % 2 = 0 then 256 else 1) * _ = _
        rw [if_pos (by omega)]
      have e6 : nI (f + 2 * k) + (2 : Int32) = nI (f + 2 * (k + 1)) := by
        refine (nI_add (f + 2 * k) 2).trans ?_
        congr 1
      rw [e5, nI_add, nI_1]
      by_cases h4 : e ≤ 2 * k + 1
      · rw [if_pos (nI_le (by omega) (by omega))]
        unfold fX11_added_L67
        rw [e6]
        have := ih (k + 1) (by omega) (by omega)
        rw [if_neg (show ¬ 2 * (k + 1) ≤ e by omega)] at this
        rw [show s0 + sm (mA M a) f (2 * k) + 256 * bN (mA M a (f + 2 * k)) = s0 + sm (mA M a) f e from by rw [show e = 2 * k + 1 by omega, s1]; omega]
        exact this
      · rw [if_neg (nI_ge (by omega) (by omega)), gA_ok h (by omega) (by omega), ob_some]
        unfold fX11_added_L67
        rw [e6, u8_nI, nI_add]
        have := ih (k + 1) (by omega) (by omega)
        rw [if_pos (show 2 * (k + 1) ≤ e by omega)] at this
        have s2 : sm (mA M a) f (2 * (k + 1)) = sm (mA M a) f (2 * k + 1) + bN (mA M a (f + 2 * k + 1)) := by
          show sm (mA M a) f (2 * k + 1) + (if (2 * k + 1) % 2 = 0 then 256 else 1) * _ = _
          rw [if_neg (by omega), Nat.one_mul]
          rfl
        rw [show s0 + sm (mA M a) f (2 * k) + 256 * bN (mA M a (f + 2 * k)) + bN (mA M a (f + 2 * k + 1)) = s0 + sm (mA M a) f (2 * (k + 1)) from by rw [s2, s1]; omega]
        exact this
theorem x_added (h : okA M 100 a) (hl : sLen (mS M) a < 2 ^ 30) {fu f e s0 : Nat} (he : f + e ≤ sLen (mS M) a) (hf : e + 1 ≤ fu) (hb : s0 + sm (mA M a) f e < 2 ^ 31) :
    fX11_added fu (some a) (nI f) (nI e) (nI s0) M = some (nI (f16 (f16 (s0 + sm (mA M a) f e))), M) := by
  unfold fX11_added
  rw [aL_ok h rfl, ob_some, nI_add]
  have e1 : jmin (nI (f + e)) (nI (sLen (mS M) a)) = nI (f + e) := by
    unfold jmin
    by_cases hq : sLen (mS M) a = f + e
    · rw [hq]; split <;> rfl
    · rw [if_neg (nI_nlt (by omega) (by omega))]
  have e2 : jmax (nI f) (0 : Int32) = nI (f + 2 * 0) := by
    unfold jmax
    rw [if_neg (nI_pos (by omega))]
    rfl
  rw [e1, e2]
  obtain ⟨n, rfl⟩ : ∃ n, fu = n + 1 := ⟨fu - 1, by omega⟩
  have := x_added_L h hl (n + 1) f e he s0 hb n 0 (by omega) (by omega)
  rw [if_pos (by omega)] at this
  exact this
theorem m_added_L (h : okA M 100 a) (hl : sLen (mS M) a < 2 ^ 30) (fu f e : Nat) (he : f + e ≤ sLen (mS M) a) (s0 : Nat) :
    ∀ (n k : Nat), k ≤ e → e ≤ k + n → fX16_added_L6 fu (n + 1) (some a) (nI f) (nI e) (lN (s0 + sm (mA M a) f k)) (nI k) M = some (lN (s0 + sm (mA M a) f e), M) := by
  intro n
  induction n with
  | zero =>
    intro k h1 h2
    obtain rfl : k = e := by omega
    rw [fX16_added_L6, if_pos (Int32.le_refl _)]
  | succ n ih =>
    intro k h1 h2
    by_cases h3 : k = e
    · subst h3
      rw [fX16_added_L6, if_pos (Int32.le_refl _)]
    · rw [fX16_added_L6, if_neg (nI_ge (by omega) (by omega)), nI_add, gA_ok h (by omega) (by omega), ob_some]
      have e0 : irm (nI k) (2 : Int32) = nI (k % 2) := pk_rem (a := k) (d := 2) (by omega) (by omega) (by omega)
      have hb := bN_lt (mA M a (f + k))
      rw [e0]
      have := ih (k + 1) (by omega) (by omega)
      by_cases h4 : k % 2 = 0
      · rw [h4, if_pos nI_0]
        unfold fX16_added_L37
        rw [u8_nI, shl8_nI hb, nI_l (by omega), lN_add, ob_some, nI_1]
        rw [show s0 + sm (mA M a) f k + 256 * bN (mA M a (f + k)) = s0 + sm (mA M a) f (k + 1) from by
          show _ = s0 + (sm (mA M a) f k + (if k % 2 = 0 then 256 else 1) * bN (mA M a (f + k)))
          rw [if_pos h4]; omega]
        exact this
      · have h5 : k % 2 = 1 := by omega
        rw [h5, if_neg (by decide)]
        unfold fX16_added_L37
        rw [u8_nI, sb_shl0, nI_l (by omega), lN_add, ob_some, nI_1]
        rw [show s0 + sm (mA M a) f k + bN (mA M a (f + k)) = s0 + sm (mA M a) f (k + 1) from by
          show _ = s0 + (sm (mA M a) f k + (if k % 2 = 0 then 256 else 1) * bN (mA M a (f + k)))
          rw [if_neg h4]; omega]
        exact this
theorem m_added (h : okA M 100 a) (hl : sLen (mS M) a < 2 ^ 30) {fu f e s0 : Nat} (he : f + e ≤ sLen (mS M) a) (hf : e + 1 ≤ fu) :
    fX16_added fu (some a) (nI f) (nI e) (lN s0) M = some (lN (s0 + sm (mA M a) f e), M) := by
  unfold fX16_added
  obtain ⟨n, rfl⟩ : ∃ n, fu = n + 1 := ⟨fu - 1, by omega⟩
  exact m_added_L h hl (n + 1) f e he s0 n 0 (by omega) (by omega)
theorem lgc_le {a b : Nat} (ha : a < 2 ^ 31) (hb : b < 2 ^ 31) : lg_cmp (lN a) (lN b) ≤ 0 ↔ a ≤ b := by
  unfold lg_cmp
  by_cases h1 : b < a
  · rw [if_pos ((lN_lt hb ha).mpr h1)]
    exact ⟨fun q => absurd q (by decide), fun _ => by omega⟩
  · rw [if_neg (fun q => h1 ((lN_lt hb ha).mp q))]
    by_cases h2 : a = b
    · rw [if_pos ((lN_eq ha hb).mpr h2)]
      exact ⟨fun _ => by omega, fun _ => by decide⟩
    · rw [if_neg (fun q => h2 ((lN_eq ha hb).mp q))]
      exact ⟨fun _ => by omega, fun _ => by decide⟩
theorem foldL {s : Nat} (h : s < 2 ^ 31) : (lN s &&& (65535 : Int64)) + (lN s >>> (Int32.toInt64 (16 : Int32) &&& 63)) = lN (f16 s) := by
  have e1 : lN s &&& (65535 : Int64) = lN (s % 65536) := wb_mask (n := s) (k := 16) (by omega) (by decide)
  have e2 : lN s >>> (Int32.toInt64 (16 : Int32) &&& 63) = lN (s / 2 ^ 16) := pf_shr (by decide) (by omega)
  rw [e1, e2, lN_add]
  rfl
theorem m_sixteen {fu s : Nat} (hf : 4 ≤ fu) (h : s < 2 ^ 31) (M : Mm) : fX16_sixteen fu (lN s) M = some (nI (65535 - f16 (f16 s)), M) := by
  obtain ⟨n, rfl⟩ : ∃ n, fu = n + 4 := ⟨fu - 4, by omega⟩
  unfold fX16_sixteen
  have hs : ∀ m s, s ≤ 65535 → fX16_sixteen_L2 (n + 4) (m + 1) (lN s) M = some (nI (65535 - s), M) := by
    intro m s h1
    have hc : lg_cmp (lN s) (65535 : Int64) ≤ 0 := (lgc_le (b := 65535) (by omega) (by omega)).mpr h1
    rw [fX16_sixteen_L2, if_pos hc, show (65535 : Int64) = lN 65535 from rfl, lN_sub h1, lN_i]
  have hg : ∀ m s, s < 2 ^ 31 → ¬ s ≤ 65535 → fX16_sixteen_L2 (n + 4) (m + 1) (lN s) M = fX16_sixteen_L2 (n + 4) m (lN (f16 s)) M := by
    intro m s h1 h2
    have hc : ¬ lg_cmp (lN s) (65535 : Int64) ≤ 0 := fun q => h2 ((lgc_le (b := 65535) (by omega) (by omega)).mp q)
    rw [fX16_sixteen_L2, if_neg hc, foldL h1]
    rfl
  have h2 := f16_2 h
  have h3 := f16_le h
  by_cases c1 : s ≤ 65535
  · rw [hs _ _ c1, f16_id c1, f16_id c1]
  · rw [hg _ _ h c1]
    by_cases c2 : f16 s ≤ 65535
    · rw [hs _ _ c2, f16_id c2]
    · rw [hg _ _ (by omega) c2, hs _ _ h2]
/-- the bytes of a number of two bytes do not see what lies above -/
theorem byt_bits {v w : Int32} (h : ∀ i, i < 8 → bt v i = bt w i) : byt v = byt w := by
  unfold byt
  have e : Int32.toInt8 v = Int32.toInt8 w := by
    apply Int8.toBitVec_inj.mp
    apply BitVec.eq_of_getLsbD_eq
    intro i hi
    have := h i hi
    unfold bt at this
    show (v.toBitVec.signExtend 8).getLsbD i = (w.toBitVec.signExtend 8).getLsbD i
    rw [BitVec.getLsbD_signExtend, BitVec.getLsbD_signExtend, this]
    simp [show i < 32 by omega, this]
  rw [e]
theorem up2_bits {g : Nat → Int32} {i : Nat} {v w : Int32} (h : ∀ k, k < 16 → bt v k = bt w k) : up2 g i v = up2 g i w := by
  funext j
  unfold up2
  have e1 : byt v = byt w := byt_bits (fun k hk => h k (by omega))
  have e2 : byt (v >>> ((8 : Int32) &&& 31)) = byt (w >>> ((8 : Int32) &&& 31)) := byt_bits (fun k hk => by
    rw [b_sshr8 _ (by omega), b_sshr8 _ (by omega), if_pos (by omega), if_pos (by omega)]
    exact h _ (by omega))
  rw [e1, e2]
theorem not_sixteen {x : Nat} (h : x ≤ 65535) : ∀ k, k < 16 → bt (nI x ^^^ (-1)) k = bt (nI (65535 - x)) k := by
  intro k hk
  rw [b_xor, b_m1 k (by omega)]
  have e : nI (65535 - x) = nI x ^^^ 65535 := by
    show _ = nI x ^^^ nI 65535
    rw [nx_xor]
    congr 1
    have h1 : x ^^^ 65535 = 65535 - x := by
      apply Nat.eq_of_testBit_eq
      intro i
      have := Nat.testBit_two_pow_sub_succ (x := x) (n := 16) (by omega) i
      rw [show 65535 - x = 2 ^ 16 - (x + 1) by omega, this, Nat.testBit_xor, show (65535 : Nat) = 2 ^ 16 - 1 from rfl, Nat.testBit_two_pow_sub_one]
      by_cases hi : i < 16
      · simp [hi]
      · have : x.testBit i = false := Nat.testBit_lt_two_pow (Nat.lt_of_lt_of_le (show x < 2 ^ 16 by omega) (Nat.pow_le_pow_right (by decide) (by omega)))
        simp [hi, this]
    exact h1.symm
  rw [e, b_xor, b_65535]
  simp [hk]
end Sums
