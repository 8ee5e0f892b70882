/-! ===== part 66: bytes, numbers of two and four bytes, in both systems ===== -/
theorem ok_sF (M : Mm) (f a : Nat) (v : Int32) (t c : Nat) : okA (sF M f a v) t c = okA M t c := propext Iff.rfl
theorem rW_sF (M : Mm) (f a : Nat) (v : Int32) : RW (sF M f a v) = RW M := propext Iff.rfl
theorem xW_sF (M : Mm) (f a : Nat) (v : Int32) : XW (sF M f a v) = XW M := propext Iff.rfl
theorem sL_sF (M : Mm) (f a : Nat) (v : Int32) : sLen (mS (sF M f a v)) = sLen (mS M) := funext fun _ => rfl
theorem ok_sG (M : Mm) (f a : Nat) (v : Option Nat) (t c : Nat) : okA (sG M f a v) t c = okA M t c := propext Iff.rfl
theorem sL_sG (M : Mm) (f a : Nat) (v : Option Nat) : sLen (mS (sG M f a v)) = sLen (mS M) := funext fun _ => rfl
theorem ok_sA (M : Mm) (a i : Nat) (v : Int32) (t c : Nat) : okA (sA M a i v) t c = okA M t c := propext Iff.rfl
theorem rW_sA (M : Mm) (a i : Nat) (v : Int32) : RW (sA M a i v) = RW M := propext Iff.rfl
theorem xW_sA (M : Mm) (a i : Nat) (v : Int32) : XW (sA M a i v) = XW M := propext Iff.rfl
theorem sL_sA (M : Mm) (a i : Nat) (v : Int32) : sLen (mS (sA M a i v)) = sLen (mS M) := funext fun _ => rfl
theorem ok_sB (M : Mm) (a i : Nat) (v : Option Nat) (t c : Nat) : okA (sB M a i v) t c = okA M t c := propext Iff.rfl
theorem sL_sB (M : Mm) (a i : Nat) (v : Option Nat) : sLen (mS (sB M a i v)) = sLen (mS M) := funext fun _ => rfl
theorem ok_sC (M : Mm) (a sp b dp n : Nat) (t c : Nat) : okA (sC M a sp b dp n) t c = okA M t c := propext Iff.rfl
theorem rW_sC (M : Mm) (a sp b dp n : Nat) : RW (sC M a sp b dp n) = RW M := propext Iff.rfl
theorem xW_sC (M : Mm) (a sp b dp n : Nat) : XW (sC M a sp b dp n) = XW M := propext Iff.rfl
theorem sL_sC (M : Mm) (a sp b dp n : Nat) : sLen (mS (sC M a sp b dp n)) = sLen (mS M) := funext fun _ => rfl
theorem ok_wA (M : Mm) (a : Nat) (g : Nat → Int32) (t c : Nat) : okA (wA M a g) t c = okA M t c := propext Iff.rfl
theorem rW_wA (M : Mm) (a : Nat) (g : Nat → Int32) : RW (wA M a g) = RW M := propext Iff.rfl
theorem xW_wA (M : Mm) (a : Nat) (g : Nat → Int32) : XW (wA M a g) = XW M := propext Iff.rfl
theorem sL_wA (M : Mm) (a : Nat) (g : Nat → Int32) : sLen (mS (wA M a g)) = sLen (mS M) := funext fun _ => rfl
abbrev u8 (x : Int32) : Int32 := x &&& 255
/-- the number of two bytes at a place, of four bytes -/
def h2 (g : Nat → Int32) (i : Nat) : Int32 := ((g i &&& 255) <<< ((8 : Int32) &&& 31)) ||| (g (i + 1) &&& 255)
def w4 (g : Nat → Int32) (i : Nat) : Int32 := (h2 g i <<< ((16 : Int32) &&& 31)) ||| h2 g (i + 2)
theorem h2_congr {g g' : Nat → Int32} {i : Nat} (h0 : g i = g' i) (h1 : g (i + 1) = g' (i + 1)) : h2 g i = h2 g' i := by unfold h2; rw [h0, h1]
theorem w4_congr {g g' : Nat → Int32} {i : Nat} (h : ∀ j, i ≤ j → j < i + 4 → g j = g' j) : w4 g i = w4 g' i := by
  unfold w4
  rw [h2_congr (h i (by omega) (by omega)) (h (i + 1) (by omega) (by omega)), h2_congr (h (i + 2) (by omega) (by omega)) (h (i + 2 + 1) (by omega) (by omega))]
theorem four_w4 (a b c d : Int32) : (((a <<< ((24 : Int32) &&& 31)) ||| ((b &&& (255 : Int32)) <<< ((16 : Int32) &&& 31))) ||| ((c &&& (255 : Int32)) <<< ((8 : Int32) &&& 31))) ||| (d &&& (255 : Int32)) = ((((a &&& 255) <<< ((8 : Int32) &&& 31)) ||| (b &&& 255)) <<< ((16 : Int32) &&& 31)) ||| (((c &&& 255) <<< ((8 : Int32) &&& 31)) ||| (d &&& 255)) := by
  apply b_ext
  intro i hi
  simp only [b_or, b_shl24 _ hi, b_shl16 _ hi, b_shl8 _ hi, b_and, b_255]
  by_cases h1 : 24 ≤ i
  · have h3 : i - 16 < 32 := by omega
    have e : i - 16 - 8 = i - 24 := by omega
    have q1 : i - 24 < 8 := by omega
    have q2 : 16 ≤ i := by omega
    have q3 : 8 ≤ i - 16 := by omega
    have q4 : ¬ i - 16 < 8 := by omega
    have q5 : ¬ i - 8 < 8 := by omega
    have q6 : ¬ i < 8 := by omega
    simp [h1, b_shl8 _ h3, b_and, b_255, e, q1, q2, q3, q4, q5, q6]
  · by_cases h2 : 16 ≤ i
    · have h3 : i - 16 < 32 := by omega
      have q1 : i - 16 < 8 := by omega
      have q3 : ¬ 8 ≤ i - 16 := by omega
      have q5 : ¬ i - 8 < 8 := by omega
      have q6 : ¬ i < 8 := by omega
      simp [h1, h2, b_shl8 _ h3, b_and, b_255, q1, q3, q5, q6]
    · simp [h1, h2, Bool.or_assoc]
section Bytes
variable {M : Mm} {a : Nat}
theorem nI_sub {x y : Nat} (h : y ≤ x) : nI x - nI y = nI (x - y) := by
  have e : x = (x - y) + y := by omega
  have h2 : nI x = nI (x - y) + nI y := by rw [nI_add]; congr 1
  rw [h2]
  exact Int32.add_sub_cancel _ _
theorem x_one (fu : Nat) (h : okA M 100 a) (hl : sLen (mS M) a < 2 ^ 30) {i : Nat} (hi : i < sLen (mS M) a) : fX11_one fu (some a) (nI i) M = some (u8 (mA M a i), M) := by
  unfold fX11_one
  rw [if_neg (nI_pos (by omega)), aL_ok h rfl, ob_some, if_neg (nI_ge hi (by omega)), gA_ok h hi (by omega)]
  rfl
theorem x_one0 (fu : Nat) (h : okA M 100 a) (hl : sLen (mS M) a < 2 ^ 30) {i : Nat} (hi : sLen (mS M) a ≤ i) (h31 : i < 2 ^ 31) : fX11_one fu (some a) (nI i) M = some (0, M) := by
  unfold fX11_one
  rw [if_neg (nI_pos (by omega)), aL_ok h rfl, ob_some, if_pos (nI_le hi h31)]
/-- a byte, or 0 beyond the row -/
def gz (g : Nat → Int32) (L i : Nat) : Int32 := if i < L then u8 (g i) else 0
theorem x_onez (fu : Nat) (h : okA M 100 a) (hl : sLen (mS M) a < 2 ^ 30) {i : Nat} (h31 : i < 2 ^ 31) : fX11_one fu (some a) (nI i) M = some (gz (mA M a) (sLen (mS M) a) i, M) := by
  unfold gz
  by_cases hi : i < sLen (mS M) a
  · rw [if_pos hi, x_one fu h hl hi]
  · rw [if_neg hi, x_one0 fu h hl (by omega) h31]
theorem x_two (fu : Nat) (h : okA M 100 a) (hl : sLen (mS M) a < 2 ^ 30) {i : Nat} (hi : i + 2 ≤ sLen (mS M) a) : fX11_two fu (some a) (nI i) M = some (h2 (mA M a) i, M) := by
  unfold fX11_two
  have e2 : nI (sLen (mS M) a) - (2 : Int32) = nI (sLen (mS M) a - 2) := nI_sub (y := 2) (by omega)
  rw [if_neg (nI_pos (by omega)), aL_ok h rfl, ob_some, e2, if_pos (nI_le (by omega) (by omega)), gA_ok h (by omega) (by omega), ob_some, nI_1, gA_ok h (by omega) (by omega), ob_some]
  rfl
theorem x_two_ex (fu : Nat) (h : okA M 100 a) (hl : sLen (mS M) a < 2 ^ 30) (h2' : 2 ≤ sLen (mS M) a) {i : Nat} (h31 : i < 2 ^ 31) : ∃ v, fX11_two fu (some a) (nI i) M = some (v, M) := by
  by_cases hi : i + 2 ≤ sLen (mS M) a
  · exact ⟨_, x_two fu h hl hi⟩
  · refine ⟨0, ?_⟩
    unfold fX11_two
    have e2 : nI (sLen (mS M) a) - (2 : Int32) = nI (sLen (mS M) a - 2) := nI_sub (y := 2) (by omega)
    rw [if_neg (nI_pos (by omega)), aL_ok h rfl, ob_some, e2, if_neg (nI_ge (by omega) (by omega))]
theorem x_four (fu : Nat) (h : okA M 100 a) (hl : sLen (mS M) a < 2 ^ 30) {i : Nat} (hi : i + 4 ≤ sLen (mS M) a) : fX11_four fu (some a) (nI i) M = some (w4 (mA M a) i, M) := by
  unfold fX11_four
  have e2 : nI (sLen (mS M) a) - (4 : Int32) = nI (sLen (mS M) a - 4) := nI_sub (y := 4) (by omega)
  have e3 : nI i + (2 : Int32) = nI (i + 2) := nI_add i 2
  have e4 : nI i + (3 : Int32) = nI (i + 3) := nI_add i 3
  rw [if_neg (nI_pos (by omega)), aL_ok h rfl, ob_some, e2, if_pos (nI_le (by omega) (by omega)), gA_ok h (by omega) (by omega), ob_some, nI_1, gA_ok h (by omega) (by omega), ob_some, e3, gA_ok h (by omega) (by omega), ob_some, e4, gA_ok h (by omega) (by omega), ob_some, four_w4]
  rfl
theorem x_four0 (fu : Nat) (h : okA M 100 a) (hl : sLen (mS M) a < 4) : fX11_four fu (some a) 0 M = some (0, M) := by
  unfold fX11_four
  rw [if_neg (by decide), aL_ok h rfl, ob_some, if_neg]
  generalize sLen (mS M) a = n at hl
  have : n = 0 ∨ n = 1 ∨ n = 2 ∨ n = 3 := by omega
  rcases this with rfl | rfl | rfl | rfl <;> decide
end Bytes
/-- a row with one, two, four bytes written -/
def up1 (g : Nat → Int32) (i : Nat) (v : Int32) : Nat → Int32 := fun j => if j = i then byt v else g j
def up2 (g : Nat → Int32) (i : Nat) (v : Int32) : Nat → Int32 := fun j => if j = i then byt (v >>> ((8 : Int32) &&& 31)) else if j = i + 1 then byt v else g j
def up4 (g : Nat → Int32) (i : Nat) (v : Int32) : Nat → Int32 := fun j => if j = i then byt (v >>> ((24 : Int32) &&& 31)) else if j = i + 1 then byt (v >>> ((16 : Int32) &&& 31)) else if j = i + 2 then byt (v >>> ((8 : Int32) &&& 31)) else if j = i + 3 then byt v else g j
theorem up1_c {g g' : Nat → Int32} {i j : Nat} {v : Int32} (h : j ≠ i → g j = g' j) : up1 g i v j = up1 g' i v j := by
  unfold up1
  by_cases h0 : j = i
  · simp [h0]
  · simp [h0, h h0]
theorem up2_c {g g' : Nat → Int32} {i j : Nat} {v : Int32} (h : j ≠ i → j ≠ i + 1 → g j = g' j) : up2 g i v j = up2 g' i v j := by
  unfold up2
  by_cases h0 : j = i
  · simp [h0]
  · by_cases h1 : j = i + 1
    · simp [h1]
    · simp [h0, h1, h h0 h1]
theorem up4_c {g g' : Nat → Int32} {i j : Nat} {v : Int32} (h : j ≠ i → j ≠ i + 1 → j ≠ i + 2 → j ≠ i + 3 → g j = g' j) : up4 g i v j = up4 g' i v j := by
  unfold up4
  by_cases h0 : j = i
  · simp [h0]
  · by_cases h1 : j = i + 1
    · simp [h1]
    · by_cases h2 : j = i + 2
      · simp [h2]
      · by_cases h3 : j = i + 3
        · simp [h3]
        · simp [h0, h1, h2, h3, h h0 h1 h2 h3]
theorem up1_o {g : Nat → Int32} {i j : Nat} {v : Int32} (h : j < i ∨ i + 1 ≤ j) : up1 g i v j = g j := by
  unfold up1; rw [if_neg (by omega)]
theorem up2_o {g : Nat → Int32} {i j : Nat} {v : Int32} (h : j < i ∨ i + 2 ≤ j) : up2 g i v j = g j := by
  unfold up2; rw [if_neg (by omega), if_neg (by omega)]
theorem up4_o {g : Nat → Int32} {i j : Nat} {v : Int32} (h : j < i ∨ i + 4 ≤ j) : up4 g i v j = g j := by
  unfold up4; rw [if_neg (by omega), if_neg (by omega), if_neg (by omega), if_neg (by omega)]
theorem byt2 (v : Int32) : Int8.toInt32 (Int32.toInt8 (Int8.toInt32 (Int32.toInt8 v))) = byt v := byt_byt v
section Puts
variable {M : Mm} {a : Nat}
theorem x_put2 (fu : Nat) (h : okA M 100 a) (hl : sLen (mS M) a < 2 ^ 30) {i : Nat} (hi : i + 2 ≤ sLen (mS M) a) (v : Int32) : fX11_putTwo fu (some a) (nI i) v M = some (wA M a (up2 (mA M a) i v)) := by
  unfold fX11_putTwo
  have e2 : nI (sLen (mS M) a) - (2 : Int32) = nI (sLen (mS M) a - 2) := nI_sub (y := 2) (by omega)
  rw [if_neg (nI_pos (by omega)), aL_ok h rfl, ob_some, e2, if_neg (nI_nlt (by omega) (by omega)), byt2, byt2, pA_ok h (by omega) (by omega), ob_some, nI_1]
  rw [pA_ok (by rw [okA_wA]; exact h) (by rw [mS_wA]; omega) (by omega), ob_some, mA_wA_self, wA_wA]
  congr 2
  funext j
  unfold up2
  by_cases h0 : j = i
  · simp [h0]
  · by_cases h1 : j = i + 1 <;> simp [h0, h1]
theorem x_put4 (fu : Nat) (h : okA M 100 a) (hl : sLen (mS M) a < 2 ^ 30) {i : Nat} (hi : i + 4 ≤ sLen (mS M) a) (v : Int32) : fX11_putFour fu (some a) (nI i) v M = some (wA M a (up4 (mA M a) i v)) := by
  unfold fX11_putFour
  have e2 : nI (sLen (mS M) a) - (4 : Int32) = nI (sLen (mS M) a - 4) := nI_sub (y := 4) (by omega)
  have e3 : nI i + (2 : Int32) = nI (i + 2) := nI_add i 2
  have e4 : nI i + (3 : Int32) = nI (i + 3) := nI_add i 3
  rw [if_neg (nI_pos (by omega)), aL_ok h rfl, ob_some, e2, if_neg (nI_nlt (by omega) (by omega)), byt2, byt2, byt2, byt2, pA_ok h (by omega) (by omega), ob_some, nI_1]
  rw [pA_ok (by rw [okA_wA]; exact h) (by rw [mS_wA]; omega) (by omega), ob_some, mA_wA_self, wA_wA, e3]
  rw [pA_ok (by rw [okA_wA]; exact h) (by rw [mS_wA]; omega) (by omega), ob_some, mA_wA_self, wA_wA, e4]
  rw [pA_ok (by rw [okA_wA]; exact h) (by rw [mS_wA]; omega) (by omega), ob_some, mA_wA_self, wA_wA]
  congr 2
  funext j
  unfold up4
  by_cases h0 : j = i
  · simp [h0]
  · by_cases h1 : j = i + 1
    · simp [h1]
    · by_cases h2 : j = i + 2
      · simp [h2]
      · by_cases h3 : j = i + 3 <;> simp [h0, h1, h2, h3]
end Puts
section PutsM
variable {M : Mm}
theorem m_put_L (h : RW M) (fu n : Nat) {i k c : Nat} (hk : k < c) (hi : i + k < 1514) (v : Int32) {b : Int32} (hb : byt (v >>> (((8 : Int32) * ((nI c - (1 : Int32)) - nI k)) &&& 31)) = b) (hc : c < 5) :
    fX16_put_L3 fu (n + 1) 323 (nI i) (nI c) v (nI k) M = fX16_put_L3 fu n 323 (nI i) (nI c) v (nI (k + 1)) (wA M 331 (fun j => if j = i + k then b else mA M 331 j)) := by
  rw [fX16_put_L3, if_neg (nI_ge hk (by omega)), gR_ok (rw_ok323 h), ob_some, rw_g1043_323 h, byt2, hb, nI_add, pA_ok (rw_ok331 h) (by rw [rw_ln331 h]; exact hi) (by omega), ob_some, nI_1]
theorem m_put_E (fu n : Nat) (i c : Nat) (v : Int32) (M : Mm) : fX16_put_L3 fu (n + 1) 323 (nI i) (nI c) v (nI c) M = some M := by
  rw [fX16_put_L3, if_pos (Int32.le_refl _)]
theorem m_put1 (h : RW M) {fu : Nat} (hf : 5 ≤ fu) {i : Nat} (hi : i + 1 ≤ 1514) (v : Int32) : fX16_put fu 323 (nI i) 1 v M = some (wA M 331 (up1 (mA M 331) i v)) := by
  obtain ⟨n, rfl⟩ : ∃ n, fu = n + 5 := ⟨fu - 5, by omega⟩
  unfold fX16_put
  have q := m_put_L h (n + 5) (n + 4) (i := i) (k := 0) (c := 1) (by omega) (by omega) v (b := byt v) (by show byt (v >>> ((0 : Int32) &&& 31)) = byt v; rw [sb_shr0]) (by omega)
  refine Eq.trans q ?_
  refine Eq.trans (m_put_E _ _ i 1 v _) ?_
  rfl
theorem m_put2 (h : RW M) {fu : Nat} (hf : 5 ≤ fu) {i : Nat} (hi : i + 2 ≤ 1514) (v : Int32) : fX16_put fu 323 (nI i) 2 v M = some (wA M 331 (up2 (mA M 331) i v)) := by
  obtain ⟨n, rfl⟩ : ∃ n, fu = n + 5 := ⟨fu - 5, by omega⟩
  unfold fX16_put
  have q := m_put_L h (n + 5) (n + 4) (i := i) (k := 0) (c := 2) (by omega) (by omega) v rfl (by omega)
  refine Eq.trans q ?_
  have q := m_put_L (M := wA M 331 (fun j => if j = i + 0 then byt (v >>> (((8 : Int32) * ((nI 2 - (1 : Int32)) - nI 0)) &&& 31)) else mA M 331 j)) h (n + 5) (n + 3) (i := i) (k := 1) (c := 2) (by omega) (by omega) v (b := byt v) (by show byt (v >>> ((0 : Int32) &&& 31)) = byt v; rw [sb_shr0]) (by omega)
  refine Eq.trans q ?_
  refine Eq.trans (m_put_E _ _ i 2 v _) ?_
  rw [mA_wA_self, wA_wA]
  congr 2
  funext j
  unfold up2
  by_cases h0 : j = i
  · simp [h0]; rfl
  · by_cases h1 : j = i + 1 <;> simp [h0, h1]
theorem m_put4 (h : RW M) {fu : Nat} (hf : 5 ≤ fu) {i : Nat} (hi : i + 4 ≤ 1514) (v : Int32) : fX16_put fu 323 (nI i) 4 v M = some (wA M 331 (up4 (mA M 331) i v)) := by
  obtain ⟨n, rfl⟩ : ∃ n, fu = n + 5 := ⟨fu - 5, by omega⟩
  unfold fX16_put
  have q := m_put_L h (n + 5) (n + 4) (i := i) (k := 0) (c := 4) (by omega) (by omega) v (b := byt (v >>> ((24 : Int32) &&& 31))) rfl (by omega)
  refine Eq.trans q ?_
  generalize hM1 : wA M 331 (fun j => if j = i + 0 then byt (v >>> ((24 : Int32) &&& 31)) else mA M 331 j) = M1
  have r1 : RW M1 := by rw [← hM1]; exact h
  have q := m_put_L r1 (n + 5) (n + 3) (i := i) (k := 1) (c := 4) (by omega) (by omega) v (b := byt (v >>> ((16 : Int32) &&& 31))) rfl (by omega)
  refine Eq.trans q ?_
  generalize hM2 : wA M1 331 (fun j => if j = i + 1 then byt (v >>> ((16 : Int32) &&& 31)) else mA M1 331 j) = M2
  have r2 : RW M2 := by rw [← hM2]; exact r1
  have q := m_put_L r2 (n + 5) (n + 2) (i := i) (k := 2) (c := 4) (by omega) (by omega) v (b := byt (v >>> ((8 : Int32) &&& 31))) rfl (by omega)
  refine Eq.trans q ?_
  generalize hM3 : wA M2 331 (fun j => if j = i + 2 then byt (v >>> ((8 : Int32) &&& 31)) else mA M2 331 j) = M3
  have r3 : RW M3 := by rw [← hM3]; exact r2
  have q := m_put_L r3 (n + 5) (n + 1) (i := i) (k := 3) (c := 4) (by omega) (by omega) v (b := byt v) (by show byt (v >>> ((0 : Int32) &&& 31)) = byt v; rw [sb_shr0]) (by omega)
  refine Eq.trans q ?_
  refine Eq.trans (m_put_E _ _ i 4 v _) ?_
  subst hM3 hM2 hM1
  simp only [mA_wA_self, wA_wA]
  congr 2
  funext j
  unfold up4
  by_cases h0 : j = i
  · simp [h0]
  · by_cases h1 : j = i + 1
    · simp [h1]
    · by_cases h2 : j = i + 2
      · simp [h2]
      · by_cases h3 : j = i + 3 <;> simp [h0, h1, h2, h3]
theorem m_trayHalf (h : RW M) (fu : Nat) {i : Nat} (hi : i + 2 ≤ 65540) : fX16_trayHalf fu 323 (nI i) M = some (h2 (mA M 324) i, M) := by
  unfold fX16_trayHalf
  simp only [gR_ok (rw_ok323 h), ob_some, rw_g1024_323 h, nI_1]
  rw [gA_ok (rw_ok324 h) (by rw [rw_ln324 h]; omega) (by omega), ob_some, gA_ok (rw_ok324 h) (by rw [rw_ln324 h]; omega) (by omega), ob_some]
  rfl
theorem m_trayWord (h : RW M) (fu : Nat) {i : Nat} (hi : i + 4 ≤ 65540) : fX16_trayWord fu 323 (nI i) M = some (w4 (mA M 324) i, M) := by
  unfold fX16_trayWord
  have e : nI i + (2 : Int32) = nI (i + 2) := nI_add i 2
  simp only [rc_ok (rw_ok323 h), ob_some, m_trayHalf h fu (show i + 2 ≤ 65540 by omega), b2_some, e, m_trayHalf h fu (show i + 2 + 2 ≤ 65540 by omega)]
  rfl
theorem m_half (h : RW M) (fu : Nat) {i : Nat} (hi : i + 2 ≤ 4096) : fX16_half fu 323 (nI i) M = some (h2 (mA M 338) i, M) := by
  unfold fX16_half
  simp only [gR_ok (rw_ok323 h), ob_some, rw_g1053_323 h, nI_1]
  rw [gA_ok (rw_ok338 h) (by rw [rw_ln338 h]; omega) (by omega), ob_some, gA_ok (rw_ok338 h) (by rw [rw_ln338 h]; omega) (by omega), ob_some]
  rfl
theorem m_wholeWord (h : RW M) (fu : Nat) {i : Nat} (hi : i + 4 ≤ 4096) : fX16_wholeWord fu 323 (nI i) M = some (w4 (mA M 338) i, M) := by
  unfold fX16_wholeWord
  have e : nI i + (2 : Int32) = nI (i + 2) := nI_add i 2
  simp only [rc_ok (rw_ok323 h), ob_some, m_half h fu (show i + 2 ≤ 4096 by omega), b2_some, e, m_half h fu (show i + 2 + 2 ≤ 4096 by omega)]
  rfl
end PutsM
