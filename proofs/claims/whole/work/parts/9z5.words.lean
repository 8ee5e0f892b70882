/-! ===== part 9z5: numbers of four bytes; the name of an entry, in the class ===== -/
/-- the number of four bytes -/
def wN (g : Nat → Int32) (i : Nat) : Nat := 16777216 * bv (g i) + 65536 * bv (g (i + 1)) + 256 * bv (g (i + 2)) + bv (g (i + 3))
theorem wN_lt (g : Nat → Int32) (i : Nat) : wN g i < 2 ^ 32 := by
  have h0 := bv_lt (g i)
  have h1 := bv_lt (g (i + 1))
  have h2 := bv_lt (g (i + 2))
  have h3 := bv_lt (g (i + 3))
  unfold wN
  omega
theorem h2_nI (g : Nat → Int32) (i : Nat) : h2 g i = nI (256 * bv (g i) + bv (g (i + 1))) := by
  have e1 : g i &&& 255 = nI (bv (g i)) := u8_bv (g i)
  have e2 : g (i + 1) &&& 255 = nI (bv (g (i + 1))) := u8_bv (g (i + 1))
  unfold h2
  rw [e1, e2, shl8_nI (bv_lt _), nx_or, show 256 * bv (g i) = 2 ^ 8 * bv (g i) from rfl, ← Nat.two_pow_add_eq_or_of_lt (bv_lt _)]
theorem w4_nI (g : Nat → Int32) (i : Nat) : w4 g i = nI (wN g i) := by
  have h0 := bv_lt (g i)
  have h1 := bv_lt (g (i + 1))
  have h2' := bv_lt (g (i + 2))
  have h3 := bv_lt (g (i + 2 + 1))
  have h3' : bv (g (i + 2 + 1)) = bv (g (i + 3)) := rfl
  unfold w4
  rw [h2_nI, h2_nI, pk_shlN _ 16 (by decide) (by omega), nx_or, Nat.mul_comm, ← Nat.two_pow_add_eq_or_of_lt (by omega)]
  congr 1
  unfold wN
  omega
theorem mask64 {N : Nat} (h : N < 2 ^ 32) : Int32.toInt64 (nI N) &&& (4294967295 : Int64) = lN N := by
  apply wb_inj
  rw [Int64.toBitVec_and]
  show (BitVec.signExtend 64 (BitVec.ofNat 32 N)) &&& (BitVec.ofNat 64 4294967295) = BitVec.ofNat 64 N
  apply BitVec.eq_of_getLsbD_eq
  intro i hi
  rw [BitVec.getLsbD_and, BitVec.getLsbD_signExtend, BitVec.getLsbD_ofNat, BitVec.getLsbD_ofNat, BitVec.getLsbD_ofNat, show (4294967295 : Nat) = 2 ^ 32 - 1 from rfl, Nat.testBit_two_pow_sub_one]
  by_cases q : i < 32
  · simp [q, hi]
  · have z : N.testBit i = false := Nat.testBit_lt_two_pow (Nat.lt_of_lt_of_le h (Nat.pow_le_pow_right (by decide) (by omega)))
    simp [q, z]
theorem nI_inj32 {a b : Nat} (ha : a < 2 ^ 32) (hb : b < 2 ^ 32) (e : nI a = nI b) : a = b := by
  have := congrArg (fun x : Int32 => x.toBitVec.toNat) e
  have t : ∀ n : Nat, n < 2 ^ 32 → (nI n).toBitVec.toNat = n := fun n hn => by
    show (BitVec.ofNat 32 n).toNat = n
    rw [BitVec.toNat_ofNat, Nat.mod_eq_of_lt hn]
  have q : (nI a).toBitVec.toNat = (nI b).toBitVec.toNat := this
  rw [t a ha, t b hb] at q
  exact q
/-- the codes of a name -/
def gd (n : Nat) : Prop := 33 ≤ n ∧ n ≤ 126
theorem gd_v {v : Int32} (h : isB v) (q : gd (bv v)) : v = nI (bv v) ∧ ¬ v < 33 ∧ v ≤ 126 := by
  unfold gd at q
  have e := (isB_n h (n := bv v) (by omega)).mpr rfl
  rw [e, show bv (nI (bv v)) = bv v by rw [← e]]
  exact ⟨rfl, nI_nlt (b := 33) q.1 (by omega), nI_le (b := 126) q.2 (by decide)⟩
theorem gd_n {v : Int32} (h : isB v) (q : ¬ gd (bv v)) (h1 : ¬ v < 33) (h2 : v ≤ 126) : False := by
  obtain ⟨m, rfl, m1, m2⟩ := nI_pos_ex (x := v) (a := 33) (b := 126) (by decide) (by decide) h1 (Int32.not_lt.mpr h2)
  have := (isB_n h (n := m) (by omega)).mp rfl
  exact q ⟨by omega, by omega⟩
/-- an entry's name is right -/
def NM (b : Nat → Nat) : Prop := b 0 = 47 ∧ ∃ z, 1 ≤ z ∧ z ≤ 47 ∧ (∀ j, j < z → gd (b j)) ∧ (∀ j, z ≤ j → j < 48 → b j = 0)
section Names
variable {M : Mm} {im ig at' : Nat} {B : Nat → Int32}
theorem x_oneB (fu : Nat) (oi : okA M 100 ig) (li : sLen (mS M) ig = im) (l2 : im ≤ 65535) (hB : ∀ j, j < im → mA M ig j = B j) {i : Nat} (hi : i < im) : fX11_one fu (some ig) (nI i) M = some (nI (bv (B i)), M) := by
  rw [x_one fu oi (by rw [li]; omega) (by rw [li]; omega), hB i hi, u8_bv]
theorem x_nmZ (fu : Nat) (o8 : okA M 8 301) (gi : mG M 512 301 = some ig) (oi : okA M 100 ig) (li : sLen (mS M) ig = im) (l2 : im ≤ 65535) (hB : ∀ j, j < im → mA M ig j = B j) (ha : at' + 48 ≤ im) : ∀ m k, k ≤ 48 → 48 < k + m → ∃ v, fX8_hasRightName_L35 fu m 301 (nI at') 1 (nI k) M = some (v, M) ∧ (v = 0 ∨ v = 1) ∧ (v = 1 ↔ ∀ j, k ≤ j → j < 48 → bv (B (at' + j)) = 0)
  | 0, k, h1, h2 => absurd h2 (by omega)
  | m + 1, k, h1, h2 => by
    rw [fX8_hasRightName_L35]
    by_cases q : 48 ≤ k
    · refine ⟨1, by rw [if_pos (show (48 : Int32) ≤ nI k from nI_le (a := 48) q (by omega)), rN1], Or.inr rfl, ⟨fun _ j j1 j2 => by omega, fun _ => rfl⟩⟩
    · have b := bv_lt (B (at' + k))
      rw [if_neg (show ¬ (48 : Int32) ≤ nI k from nI_ge (b := 48) (by omega) (by decide)), gR_ok o8, ob_some, gi, nI_add, x_oneB fu oi li l2 hB (by omega), b2_some, if_neg (by decide)]
      unfold fX8_hasRightName_L62 fX8_hasRightName_L67
      rw [if_neg (by decide)]
      by_cases z : bv (B (at' + k)) = 0
      · rw [z, if_pos nI_0]
        unfold fX8_hasRightName_L96
        rw [nI_1]
        obtain ⟨v, e1, e2, e3⟩ := x_nmZ fu o8 gi oi li l2 hB ha m (k + 1) (by omega) (by omega)
        refine ⟨v, e1, e2, e3.trans ⟨fun y j j1 j2 => ?_, fun y j j1 j2 => y j (by omega) j2⟩⟩
        by_cases y2 : j = k
        · rw [y2]; exact z
        · exact y j (by omega) j2
      · rw [if_neg (nI_ne0 (by omega) (by omega)), rN0]
        exact ⟨0, rfl, Or.inl rfl, ⟨fun y => absurd y (by decide), fun y => absurd (y k (Nat.le_refl _) (by omega)) z⟩⟩
/-- the rest of a name, from k on -/
def PG (b : Nat → Nat) (k : Nat) : Prop := ∃ z, k ≤ z ∧ z ≤ 48 ∧ (∀ j, k ≤ j → j < z → gd (b j)) ∧ (∀ j, z ≤ j → j < 48 → b j = 0)
theorem PG_s {b : Nat → Nat} {k : Nat} (h : k < 48) (n0 : b k ≠ 0) : PG b k ↔ (gd (b k) ∧ PG b (k + 1)) := by
  constructor
  · intro ⟨z, z1, z2, z3, z4⟩
    have : k < z := by
      apply Classical.byContradiction
      intro q
      exact n0 (z4 k (by omega) h)
    exact ⟨z3 k (Nat.le_refl _) this, z, by omega, z2, fun j j1 j2 => z3 j (by omega) j2, z4⟩
  · intro ⟨g, z, z1, z2, z3, z4⟩
    refine ⟨z, by omega, z2, fun j j1 j2 => ?_, z4⟩
    by_cases q : j = k
    · rw [q]; exact g
    · exact z3 j (by omega) j2
theorem PG_0 {b : Nat → Nat} {k : Nat} (h : k < 48) (n0 : b k = 0) : PG b k ↔ ∀ j, k + 1 ≤ j → j < 48 → b j = 0 := by
  constructor
  · intro ⟨z, z1, z2, z3, z4⟩ j j1 j2
    have : z ≤ k := by
      apply Classical.byContradiction
      intro q
      have := z3 k (Nat.le_refl _) (by omega)
      unfold gd at this
      omega
    exact z4 j (by omega) j2
  · intro y
    refine ⟨k, Nat.le_refl _, by omega, fun j j1 j2 => by omega, fun j j1 j2 => ?_⟩
    by_cases q : j = k
    · rw [q]; exact n0
    · exact y j (by omega) j2
theorem x_nmG (fu : Nat) (o8 : okA M 8 301) (gi : mG M 512 301 = some ig) (oi : okA M 100 ig) (li : sLen (mS M) ig = im) (l2 : im ≤ 65535) (hB : ∀ j, j < im → mA M ig j = B j) (ha : at' + 48 ≤ im) : ∀ m k, k ≤ 48 → 48 < k + m → ∃ v, fX8_hasRightName_L35 fu m 301 (nI at') 0 (nI k) M = some (v, M) ∧ (v = 0 ∨ v = 1) ∧ (v = 1 ↔ PG (fun j => bv (B (at' + j))) k)
  | 0, k, h1, h2 => absurd h2 (by omega)
  | m + 1, k, h1, h2 => by
    rw [fX8_hasRightName_L35]
    by_cases q : 48 ≤ k
    · refine ⟨1, by rw [if_pos (show (48 : Int32) ≤ nI k from nI_le (a := 48) q (by omega)), rN1], Or.inr rfl, ⟨fun _ => ⟨k, Nat.le_refl _, h1, fun j j1 j2 => by omega, fun j j1 j2 => by omega⟩, fun _ => rfl⟩⟩
    · have b := bv_lt (B (at' + k))
      rw [if_neg (show ¬ (48 : Int32) ≤ nI k from nI_ge (b := 48) (by omega) (by decide)), gR_ok o8, ob_some, gi, nI_add, x_oneB fu oi li l2 hB (by omega), b2_some, if_pos rfl]
      by_cases z : bv (B (at' + k)) = 0
      · rw [z, if_pos nI_0]
        unfold fX8_hasRightName_L62 fX8_hasRightName_L67
        rw [if_neg (by decide), if_pos nI_0]
        unfold fX8_hasRightName_L96
        rw [nI_1]
        obtain ⟨v, e1, e2, e3⟩ := x_nmZ fu o8 gi oi li l2 hB ha m (k + 1) (by omega) (by omega)
        exact ⟨v, e1, e2, e3.trans (PG_0 (b := fun j => bv (B (at' + j))) (by omega) z).symm⟩
      · rw [if_neg (nI_ne0 (by omega) (by omega))]
        unfold fX8_hasRightName_L67
        rw [if_pos rfl]
        have S := PG_s (b := fun j => bv (B (at' + j))) (k := k) (by omega) z
        by_cases g : gd (bv (B (at' + k)))
        · have g' := g
          unfold gd at g'
          rw [if_neg (show ¬ nI (bv (B (at' + k))) < 33 from nI_nlt (b := 33) g'.1 (by omega)), if_pos (show nI (bv (B (at' + k))) ≤ 126 from nI_le (b := 126) g'.2 (by decide))]
          unfold fX8_hasRightName_L96
          rw [nI_1]
          obtain ⟨v, e1, e2, e3⟩ := x_nmG fu o8 gi oi li l2 hB ha m (k + 1) (by omega) (by omega)
          exact ⟨v, e1, e2, e3.trans ⟨fun y => S.mpr ⟨g, y⟩, fun y => (S.mp y).2⟩⟩
        · refine ⟨0, ?_, Or.inl rfl, ⟨fun y => absurd y (by decide), fun y => absurd (S.mp y).1 g⟩⟩
          unfold gd at g
          by_cases y : bv (B (at' + k)) < 33
          · rw [if_pos (show nI (bv (B (at' + k))) < 33 from nI_lt (b := 33) y (by decide)), rN0]
          · rw [if_neg (show ¬ nI (bv (B (at' + k))) < 33 from nI_nlt (b := 33) (by omega) (by omega)), if_neg (show ¬ nI (bv (B (at' + k))) ≤ 126 from nI_ge (a := 126) (by omega) (by omega)), rN0]
theorem x_nameR (fu : Nat) (hfu : 100 ≤ fu) (o8 : okA M 8 301) (gi : mG M 512 301 = some ig) (oi : okA M 100 ig) (li : sLen (mS M) ig = im) (l2 : im ≤ 65535) (hB : ∀ j, j < im → mA M ig j = B j) (ha : at' + 48 ≤ im) : ∃ v, fX8_hasRightName fu 301 (nI at') M = some (v, M) ∧ (v = 0 ∨ v = 1) ∧ (v = 1 ↔ NM (fun j => bv (B (at' + j)))) := by
  have e47 : nI at' + (48 : Int32) - (1 : Int32) = nI (at' + 47) := by
    rw [show nI at' + (48 : Int32) = nI (at' + 48) from nI_add at' 48, show (1 : Int32) = nI 1 from rfl, nI_sub (by omega)]
    congr 1
  have b0 := bv_lt (B at')
  have b1 := bv_lt (B (at' + 47))
  unfold fX8_hasRightName
  rw [gR_ok o8, ob_some, gi, x_oneB fu oi li l2 hB (by omega), b2_some]
  by_cases c1 : bv (B at') = 47
  · rw [if_pos (show nI (bv (B at')) = 47 by rw [c1]; rfl), gR_ok o8, ob_some, gi, e47, x_oneB fu oi li l2 hB (by omega), b2_some]
    by_cases c2 : bv (B (at' + 47)) = 0
    · rw [c2, if_pos nI_0]
      obtain ⟨v, e1, e2, e3⟩ := x_nmG (B := B) fu o8 gi oi li l2 hB ha fu 1 (by decide) (by omega)
      refine ⟨v, e1, e2, e3.trans ⟨fun ⟨z, z1, z2, z3, z4⟩ => ⟨c1, z, z1, ?_, fun j hj => ?_, z4⟩, fun ⟨_, z, z1, z2, z3, z4⟩ => ⟨z, z1, by omega, fun j j1 j2 => z3 j j2, z4⟩⟩⟩
      · apply Classical.byContradiction
        intro q
        have this : gd (bv (B (at' + 47))) := z3 47 (by omega) (by omega)
        unfold gd at this
        have c2' : bv (B (at' + 47)) = 0 := c2
        omega
      · by_cases j0 : j = 0
        · rw [j0]
          show gd (bv (B (at' + 0)))
          rw [Nat.add_zero, c1]
          unfold gd
          omega
        · exact z3 j (by omega) hj
    · rw [if_neg (nI_ne0 (by omega) (by omega)), rN0]
      refine ⟨0, rfl, Or.inl rfl, ⟨fun y => absurd y (by decide), fun ⟨_, z, z1, z2, z3, z4⟩ => absurd (z4 47 (by omega) (by omega)) c2⟩⟩
  · rw [if_neg (show ¬ nI (bv (B at')) = 47 from fun e => c1 ((nI_eq (b := 47) (by omega) (by decide)).mp e)), rN0]
    exact ⟨0, rfl, Or.inl rfl, ⟨fun y => absurd y (by decide), fun y => absurd y.1 c1⟩⟩
end Names
