/-! ===== part 68: frames go out: the rows that are written, in closed form ===== -/
/-- the fourteen bytes ahead of a packet -/
def hd5 (g : Nat → Int32) (th tl hi lo kind : Int32) : Nat → Int32 := up2 (up4 (up2 (up4 (up2 g 0 th) 2 tl) 6 hi) 8 lo) 12 kind
theorem hd5_c {g g' : Nat → Int32} {th tl hi lo kind : Int32} {j : Nat} (h : 14 ≤ j → g j = g' j) : hd5 g th tl hi lo kind j = hd5 g' th tl hi lo kind j := by
  unfold hd5
  refine up2_c fun _ _ => up4_c fun _ _ _ _ => up2_c fun _ _ => up4_c fun _ _ _ _ => up2_c fun _ _ => h (by omega)
theorem hd5_o {g : Nat → Int32} {th tl hi lo kind : Int32} {j : Nat} (h : 14 ≤ j) : hd5 g th tl hi lo kind j = g j := by
  unfold hd5
  rw [up2_o (by omega), up4_o (by omega), up2_o (by omega), up4_o (by omega), up2_o (by omega)]
/-- zeros up to 60 -/
def zf (g : Nat → Int32) (n : Nat) : Nat → Int32 := fun j => if n ≤ j ∧ j < 60 then 0 else g j
/-- a row copied into another -/
def cpy (g k : Nat → Int32) (p n : Nat) : Nat → Int32 := fun j => if p ≤ j ∧ j < p + n then g (j - p) else k j
def st1 (g : Nat → Int32) (i : Nat) (v : Int32) : Nat → Int32 := fun j => if j = i then v else g j
theorem toB_byt (v : Int32) (h : isB v) : Int8.toInt32 (Int32.toInt8 v) = v := h
theorem m_send_fill (fu : Nat) {A : Mm} (h : RW A) (g : Nat → Int32) (a5 : Int32) (k0 : Nat) : ∀ (m k : Nat), k0 ≤ k → k ≤ 60 → 60 ≤ k + m →
    ∃ m', 60 + m' = k + m ∧ fX16_send_L55 fu (m + 1) 323 a5 (nI k) (wA A 331 (fun j => if k0 ≤ j ∧ j < k then 0 else g j)) = fX16_send_L55 fu (m' + 1) 323 a5 (nI 60) (wA A 331 (zf g k0)) := by
  intro m
  induction m with
  | zero =>
    intro k h1 h2 h3
    obtain rfl : k = 60 := by omega
    exact ⟨0, by omega, rfl⟩
  | succ m ih =>
    intro k h1 h2 h3
    by_cases hk : k = 60
    · subst hk; exact ⟨m + 1, rfl, rfl⟩
    · obtain ⟨m', e1, e2⟩ := ih (k + 1) (by omega) (by omega) (by omega)
      refine ⟨m', by omega, ?_⟩
      rw [← e2, fX16_send_L55]
      have hR : RW (wA A 331 (fun j => if k0 ≤ j ∧ j < k then 0 else g j)) := h
      have hc : ¬ (60 : Int32) ≤ nI k := nI_ge (b := 60) (by omega) (by omega)
      rw [if_neg hc]
      simp only [gR_ok (rw_ok323 hR), ob_some, rw_g1043_323 hR]
      rw [pA_ok (rw_ok331 hR) (by rw [rw_ln331 hR]; omega) (by omega), ob_some, nI_1, mA_wA_self, wA_wA]
      congr 3
      funext j
      have e0 : Int8.toInt32 (Int32.toInt8 (0 : Int32)) = 0 := rfl
      by_cases hj : j = k
      · subst hj
        simp [h1]
      · by_cases hq : k0 ≤ j ∧ j < k
        · rw [if_neg hj, if_pos hq, if_pos (by omega)]
        · rw [if_neg hj, if_neg hq, if_neg (by omega)]
theorem m_send_copy (fu : Nat) {A : Mm} (h : RW A) (hB : By A) (n s T nw : Nat) (hs : s < 32) (hn : n ≤ 1514) : ∀ (m k : Nat) (K : Nat → Int32), k ≤ n → n ≤ k + m →
    (mF A 1047 323) = nI T → (mF A 1034 323) = nI nw → fX16_send_L116 fu (m + 1) 323 (nI n) (nI s) (nI k) (wA A 332 (cpy (mA A 331) K (s * 1514) k)) = some (sF (wA (wA (wA A 332 (cpy (mA A 331) K (s * 1514) n)) 333 (st1 (mA A 333) s (nI n))) 334 (st1 (mA A 334) s (nI nw))) 1047 323 (nI (T + 1))) := by
  intro m
  induction m with
  | zero =>
    intro k K h1 h2 hT hN
    obtain rfl : k = n := by omega
    rw [fX16_send_L116, if_pos (Int32.le_refl _)]
    have hR : RW (wA A 332 (cpy (mA A 331) K (s * 1514) k)) := h
    simp only [gR_ok, rw_ok323 h, ok_wA, ok_sF, ob_some, mG_wA, rw_g1045_323 h, gI_ok]
    rw [pA_ok (rw_ok333 hR) (by rw [rw_ln333 hR]; omega) (by omega), ob_some]
    simp only [gR_ok, rw_ok323 h, ok_wA, ok_sF, ob_some, mG_wA, rw_g1046_323 h, gI_ok, mF_wA, hN]
    rw [pA_ok (by simp only [ok_wA]; exact rw_ok334 hR) (by simp only [mS_wA]; rw [rw_ln334 h]; omega) (by omega), ob_some]
    simp only [gR_ok, rw_ok323 h, ok_wA, ok_sF, ob_some, mG_wA, gI_ok, mF_wA, pF_ok, hT, nI_1]
    rw [mA_wA_ne (by decide), mA_wA_ne (b := 334) (by decide), mA_wA_ne (b := 334) (by decide)]
    rfl
  | succ m ih =>
    intro k K h1 h2 hT hN
    by_cases hk : k = n
    · subst hk
      rw [fX16_send_L116, if_pos (Int32.le_refl _)]
      have hR : RW (wA A 332 (cpy (mA A 331) K (s * 1514) k)) := h
      simp only [gR_ok, rw_ok323 h, ok_wA, ok_sF, ob_some, mG_wA, rw_g1045_323 h, gI_ok]
      rw [pA_ok (rw_ok333 hR) (by rw [rw_ln333 hR]; omega) (by omega), ob_some]
      simp only [gR_ok, rw_ok323 h, ok_wA, ok_sF, ob_some, mG_wA, rw_g1046_323 h, gI_ok, mF_wA, hN]
      rw [pA_ok (by simp only [ok_wA]; exact rw_ok334 hR) (by simp only [mS_wA]; rw [rw_ln334 h]; omega) (by omega), ob_some]
      simp only [gR_ok, rw_ok323 h, ok_wA, ok_sF, ob_some, mG_wA, gI_ok, mF_wA, pF_ok, hT, nI_1]
      rw [mA_wA_ne (by decide), mA_wA_ne (b := 334) (by decide), mA_wA_ne (b := 334) (by decide)]
      rfl
    · rw [fX16_send_L116, if_neg (nI_ge (by omega) (by omega))]
      have hR : RW (wA A 332 (cpy (mA A 331) K (s * 1514) k)) := h
      simp only [gR_ok, rw_ok323 h, ok_wA, ok_sF, ob_some, mG_wA, rw_g1044_323 h, rw_g1043_323 h, gI_ok]
      rw [gA_ok (rw_ok331 hR) (by rw [rw_ln331 hR]; omega) (by omega), ob_some, mA_wA_ne (by decide), show (1514 : Int32) = nI 1514 from rfl, pk_mul, nI_add, toB_byt _ (hB 331 k (rw_ok331 h).2.2), pA_ok (rw_ok332 hR) (by rw [rw_ln332 hR]; omega) (by omega), ob_some, nI_1, mA_wA_self, wA_wA]
      rw [← ih (k + 1) K (by omega) (by omega) hT hN]
      congr 2
      funext j
      unfold cpy
      by_cases hj : j = s * 1514 + k
      · subst hj
        rw [if_pos rfl, if_pos (by omega)]
        congr 1
        omega
      · rw [if_neg hj]
        by_cases hq : s * 1514 ≤ j ∧ j < s * 1514 + k
        · rw [if_pos hq, if_pos (by omega)]
        · rw [if_neg hq, if_neg (by omega)]
theorem jmax_nI {a b : Nat} (ha : a < 2 ^ 31) (hb : b < 2 ^ 31) : jmax (nI a) (nI b) = nI (max a b) := by
  unfold jmax
  by_cases h : a < b
  · rw [if_pos (nI_lt h hb), Nat.max_eq_right (by omega)]
  · rw [if_neg (nI_nlt (by omega) ha), Nat.max_eq_left (by omega)]
theorem jmin_nI {a b : Nat} (ha : a < 2 ^ 31) (hb : b < 2 ^ 31) : jmin (nI a) (nI b) = nI (min a b) := by
  unfold jmin
  by_cases h : b < a
  · rw [if_pos (nI_lt h ha), Nat.min_eq_right (by omega)]
  · rw [if_neg (nI_nlt (by omega) hb), Nat.min_eq_left (by omega)]
theorem irm_nI {a d : Nat} (ha : a < 2 ^ 31) (h0 : 0 < d) (hd : d < 2 ^ 31) : irm (nI a) (nI d) = nI (a % d) := pk_rem ha h0 hd
/-- what the reference's memory is after a frame of n bytes went out of the row G -/
def sentM (A : Mm) (G : Nat → Int32) (n T nw : Nat) : Mm := sF (wA (wA (wA (wA A 331 G) 332 (cpy G (mA A 332) (T % 32 * 1514) n)) 333 (st1 (mA A 333) (T % 32) (nI n))) 334 (st1 (mA A 334) (T % 32) (nI nw))) 1047 323 (nI (T + 1))
theorem By_wA {A : Mm} {a : Nat} {g : Nat → Int32} (h : By A) (hg : sTy (mS A) a = 100 → ∀ j, isB (g j)) : By (wA A a g) := by
  intro b i hb
  by_cases e : b = a
  · subst e
    rw [mA_wA_self]
    exact hg hb i
  · rw [mA_wA_ne e]
    exact h b i hb
theorem isB_up1 {g : Nat → Int32} (h : ∀ j, isB (g j)) (i : Nat) (v : Int32) : ∀ j, isB (up1 g i v j) := by
  intro j; unfold up1; split
  · exact isB_w _
  · exact h j
theorem isB_up2 {g : Nat → Int32} (h : ∀ j, isB (g j)) (i : Nat) (v : Int32) : ∀ j, isB (up2 g i v j) := by
  intro j; unfold up2; split
  · exact isB_w _
  · split
    · exact isB_w _
    · exact h j
theorem isB_up4 {g : Nat → Int32} (h : ∀ j, isB (g j)) (i : Nat) (v : Int32) : ∀ j, isB (up4 g i v j) := by
  intro j; unfold up4; split
  · exact isB_w _
  · split
    · exact isB_w _
    · split
      · exact isB_w _
      · split
        · exact isB_w _
        · exact h j
theorem isB_hd5 {g : Nat → Int32} (h : ∀ j, isB (g j)) (th tl hi lo kind : Int32) : ∀ j, isB (hd5 g th tl hi lo kind j) := isB_up2 (isB_up4 (isB_up2 (isB_up4 (isB_up2 h _ _) _ _) _ _) _ _) _ _
theorem isB_zf {g : Nat → Int32} (h : ∀ j, isB (g j)) (n : Nat) : ∀ j, isB (zf g n j) := by
  intro j; unfold zf; split
  · exact isB_0
  · exact h j
theorem m_send {A : Mm} (h : RW A) (hB : By A) {fu c T nw : Nat} (hf : 2000 ≤ fu) (hc : c ≤ 1500) (hT : (mF A 1047 323) = nI T) (hT2 : T < 2 ^ 30) (hN : (mF A 1034 323) = nI nw) (th tl kind : Int32) :
    fX16_send fu 323 th tl kind (nI c) A = some (sentM A (zf (hd5 (mA A 331) th tl (mF A 1032 323) (mF A 1033 323) kind) (14 + c)) (max (14 + c) 60) T nw) := by
  unfold fX16_send
  have hf5 : 5 ≤ fu := by omega
  have hf := hf5
  simp only [rc_ok, ok_wA, rw_ok323 h, ob_some, rW_wA, h, (fun v M (h : RW M) => show fX16_put fu 323 (0 : Int32) 2 v M = some (wA M 331 (up2 (mA M 331) 0 v)) from m_put2 h hf (i := 0) (by decide) v), (fun v M (h : RW M) => show fX16_put fu 323 (2 : Int32) 4 v M = some (wA M 331 (up4 (mA M 331) 2 v)) from m_put4 h hf (i := 2) (by decide) v), (fun v M (h : RW M) => show fX16_put fu 323 (6 : Int32) 2 v M = some (wA M 331 (up2 (mA M 331) 6 v)) from m_put2 h hf (i := 6) (by decide) v), (fun v M (h : RW M) => show fX16_put fu 323 (8 : Int32) 4 v M = some (wA M 331 (up4 (mA M 331) 8 v)) from m_put4 h hf (i := 8) (by decide) v), (fun v M (h : RW M) => show fX16_put fu 323 (12 : Int32) 2 v M = some (wA M 331 (up2 (mA M 331) 12 v)) from m_put2 h hf (i := 12) (by decide) v), gI_ok, mF_wA, mA_wA_self, wA_wA]
  have e1 : (14 : Int32) + nI c = nI (14 + c) := nI_add 14 c
  rw [e1]
  show fX16_send_L55 fu fu 323 (nI (14 + c)) (nI (14 + c)) (wA A 331 (hd5 (mA A 331) th tl (mF A 1032 323) (mF A 1033 323) kind)) = _
  generalize hg : hd5 (mA A 331) th tl (mF A 1032 323) (mF A 1033 323) kind = g
  have hgB : ∀ j, isB (g j) := by rw [← hg]; exact isB_hd5 (fun j => hB 331 j (rw_ok331 h).2.2) _ _ _ _ _
  -- the part from 60 on
  have key : ∀ m, 60 ≤ m + 60 → 1515 ≤ fu → ∀ k, k ≥ 60 → fX16_send_L55 fu (m + 1) 323 (nI (14 + c)) (nI k) (wA A 331 (zf g (14 + c))) = some (sentM A (zf g (14 + c)) (max (14 + c) 60) T nw) ∨ ¬ k < 2 ^ 31 := by
    intro m _ hfu k hk
    by_cases hk2 : k < 2 ^ 31
    · left
      rw [fX16_send_L55]
      have c1 : (60 : Int32) ≤ nI k := nI_le (a := 60) (by omega) hk2
      have e2 : jmax (nI (14 + c)) (60 : Int32) = nI (max (14 + c) 60) := jmax_nI (b := 60) (by omega) (by omega)
      have c2 : nI (max (14 + c) 60) ≤ (1514 : Int32) := nI_le (b := 1514) (by omega) (by omega)
      rw [if_pos c1, e2, if_pos c2]
      have hR : RW (wA A 331 (zf g (14 + c))) := h
      simp only [gI_ok, ok_wA, rw_ok323 h, ob_some, mF_wA, hT]
      have e3 : irm (nI T) (32 : Int32) = nI (T % 32) := irm_nI (d := 32) (by omega) (by omega) (by omega)
      rw [e3]
      obtain ⟨fm, rfl⟩ : ∃ fm, fu = fm + 1 := ⟨fu - 1, by omega⟩
      have hB2 : By (wA A 331 (zf g (14 + c))) := By_wA hB (fun _ => isB_zf hgB _)
      have := m_send_copy (fm + 1) hR hB2 (max (14 + c) 60) (T % 32) T nw (by omega) (by omega) fm 0 (mA A 332) (by omega) (by omega) hT hN
      rw [mA_wA_self] at this
      have e4 : cpy (zf g (14 + c)) (mA A 332) (T % 32 * 1514) 0 = mA A 332 := by
        funext j
        unfold cpy
        rw [if_neg (by omega)]
      rw [e4] at this
      have e5 : wA (wA A 331 (zf g (14 + c))) 332 (mA A 332) = wA A 331 (zf g (14 + c)) := by
        have q := wA_mA (wA A 331 (zf g (14 + c))) 332
        rw [mA_wA_ne (by decide)] at q
        exact q
      rw [e5] at this
      refine Eq.trans this ?_
      unfold sentM
      rw [mA_wA_ne (b := 333) (by decide), mA_wA_ne (b := 334) (by decide)]
    · right; exact hk2
  obtain ⟨m, rfl⟩ : ∃ m, fu = m + 1 := ⟨fu - 1, by omega⟩
  by_cases h60 : 14 + c ≤ 60
  · obtain ⟨m', e2, e3⟩ := m_send_fill (m + 1) h g (nI (14 + c)) (14 + c) m (14 + c) (by omega) h60 (by omega)
    have e4 : (fun j => if 14 + c ≤ j ∧ j < 14 + c then 0 else g j) = g := by
      funext j
      rw [if_neg (by omega)]
    rw [e4] at e3
    rw [e3]
    rcases key m' (by omega) (by omega) 60 (by omega) with q | q
    · exact q
    · exact absurd (by omega) q
  · have e4 : zf g (14 + c) = g := by
      funext j
      unfold zf
      rw [if_neg (by omega)]
    rcases key m (by omega) (by omega) (14 + c) (by omega) with q | q
    · rw [e4] at q ⊢
      exact q
    · exact absurd (by omega) q
/-- the class's link header -/
theorem x_fillLink {M : Mm} (h : XW M) {a : Nat} (ha : okA M 100 a) (hl : sLen (mS M) a < 2 ^ 30) (h14 : 14 ≤ sLen (mS M) a) (fu : Nat) (th tl kind : Int32) :
    fX4_fillLink fu 307 (some a) th tl kind M = some (wA M a (hd5 (mA M a) th tl (mF M 258 307) (mF M 259 307) kind)) := by
  unfold fX4_fillLink
  have l0 : 0 + 2 ≤ sLen (mS M) a := by omega
  have l2 : 2 + 4 ≤ sLen (mS M) a := by omega
  have l6 : 6 + 2 ≤ sLen (mS M) a := by omega
  have l8 : 8 + 4 ≤ sLen (mS M) a := by omega
  have l12 : 12 + 2 ≤ sLen (mS M) a := by omega
  simp only [(fun v M a (h : okA M 100 a) (hl : sLen (mS M) a < 2 ^ 30) (hi : 0 + 2 ≤ sLen (mS M) a) => show fX11_putTwo fu (some a) (0 : Int32) v M = some (wA M a (up2 (mA M a) 0 v)) from x_put2 fu h hl (i := 0) hi v), (fun v M a (h : okA M 100 a) (hl : sLen (mS M) a < 2 ^ 30) (hi : 2 + 4 ≤ sLen (mS M) a) => show fX11_putFour fu (some a) (2 : Int32) v M = some (wA M a (up4 (mA M a) 2 v)) from x_put4 fu h hl (i := 2) hi v), (fun v M a (h : okA M 100 a) (hl : sLen (mS M) a < 2 ^ 30) (hi : 6 + 2 ≤ sLen (mS M) a) => show fX11_putTwo fu (some a) (6 : Int32) v M = some (wA M a (up2 (mA M a) 6 v)) from x_put2 fu h hl (i := 6) hi v), (fun v M a (h : okA M 100 a) (hl : sLen (mS M) a < 2 ^ 30) (hi : 8 + 4 ≤ sLen (mS M) a) => show fX11_putFour fu (some a) (8 : Int32) v M = some (wA M a (up4 (mA M a) 8 v)) from x_put4 fu h hl (i := 8) hi v), (fun v M a (h : okA M 100 a) (hl : sLen (mS M) a < 2 ^ 30) (hi : 12 + 2 ≤ sLen (mS M) a) => show fX11_putTwo fu (some a) (12 : Int32) v M = some (wA M a (up2 (mA M a) 12 v)) from x_put2 fu h hl (i := 12) hi v), ha, hl, l0, l2, l6, l8, l12, ok_wA, sL_wA, ob_some, gI_ok, xw_ok307 h, mF_wA, mA_wA_self, wA_wA]
  rfl
/-- a new packet, put into place i of a row of packets -/
def nPk (M : Mm) (arr i : Nat) : Mm := sB (sG (nA (nO M 6 5) 100 1514) 384 (sN (mS M)) (some (sN (mS M) + 1))) arr i (some (sN (mS M)))
section NPk
variable {M : Mm} {arr i : Nat}
theorem nPk_F {f b : Nat} (h : b ≠ sN (mS M)) : mF (nPk M arr i) f b = mF M f b := by
  show (if b = sN (mS M) then 0 else M.1 f b) = _
  rw [if_neg h]; rfl
theorem nPk_G {f b : Nat} (h : b ≠ sN (mS M)) : mG (nPk M arr i) f b = mG M f b := by
  show (if f = 384 ∧ b = sN (mS M) then _ else (if b = sN (mS M) then none else M.2.1 f b)) = _
  rw [if_neg (fun q => h q.2), if_neg h]; rfl
theorem nPk_Gp : mG (nPk M arr i) 384 (sN (mS M)) = some (sN (mS M) + 1) := by
  show (if 384 = 384 ∧ sN (mS M) = sN (mS M) then _ else _) = _
  rw [if_pos ⟨rfl, rfl⟩]
theorem nPk_A {b j : Nat} (h : b ≠ sN (mS M) + 1) : mA (nPk M arr i) b j = mA M b j := by
  show (if b = sN (mS M) + 1 then 0 else M.2.2.1 b j) = _
  rw [if_neg h]; rfl
theorem nPk_A0 {j : Nat} : mA (nPk M arr i) (sN (mS M) + 1) j = 0 := by
  show (if sN (mS M) + 1 = sN (mS M) + 1 then 0 else _) = _
  rw [if_pos rfl]
theorem nPk_B {b j : Nat} (h : ¬ (b = arr ∧ j = i)) (h2 : b ≠ sN (mS M) + 1) : mB (nPk M arr i) b j = mB M b j := by
  show (if b = arr ∧ j = i then _ else (if b = sN (mS M) + 1 then none else M.2.2.2.1 b j)) = _
  rw [if_neg h, if_neg h2]; rfl
theorem nPk_Bi : mB (nPk M arr i) arr i = some (sN (mS M)) := by
  show (if arr = arr ∧ i = i then _ else _) = _
  rw [if_pos ⟨rfl, rfl⟩]
theorem nPk_N : sN (mS (nPk M arr i)) = sN (mS M) + 2 := rfl
theorem nPk_S : sSl (mS (nPk M arr i)) = sSl (mS M) + 1519 := rfl
theorem nPk_T {b : Nat} (h : b < sN (mS M)) : sTy (mS (nPk M arr i)) b = sTy (mS M) b := by
  show (if b = sN (mS M) + 1 then 100 else (if b = sN (mS M) then 6 else _)) = _
  rw [if_neg (by omega), if_neg (by omega)]; rfl
theorem nPk_Tp : sTy (mS (nPk M arr i)) (sN (mS M)) = 6 := by
  show (if sN (mS M) = sN (mS M) + 1 then 100 else (if sN (mS M) = sN (mS M) then 6 else _)) = _
  rw [if_neg (by omega), if_pos rfl]
theorem nPk_Tb : sTy (mS (nPk M arr i)) (sN (mS M) + 1) = 100 := by
  show (if sN (mS M) + 1 = sN (mS M) + 1 then 100 else _) = _
  rw [if_pos rfl]
theorem nPk_L {b : Nat} (h : b < sN (mS M)) : sLen (mS (nPk M arr i)) b = sLen (mS M) b := by
  show (if b = sN (mS M) + 1 then 1514 else (if b = sN (mS M) then 0 else _)) = _
  rw [if_neg (by omega), if_neg (by omega)]; rfl
theorem nPk_Lb : sLen (mS (nPk M arr i)) (sN (mS M) + 1) = 1514 := by
  show (if sN (mS M) + 1 = sN (mS M) + 1 then 1514 else _) = _
  rw [if_pos rfl]
theorem nPk_ok {t b : Nat} (h : okA M t b) : okA (nPk M arr i) t b := ⟨h.1, by rw [nPk_N]; exact Nat.lt_of_lt_of_le h.2.1 (by omega), by rw [nPk_T h.2.1]; exact h.2.2⟩
theorem mkO_6 (h1 : sN (mS M) + 2 ≤ 600300) (h2 : sSl (mS M) + 1519 ≤ 7302250) : mkO M 6 = some (sN (mS M), nO M 6 5) := by
  unfold mkO
  have e : clN 6 = 5 := by decide
  rw [e, if_pos ⟨by omega, by omega⟩]
theorem x_init6 (fu : Nat) (h0 : 300 ≤ sN (mS M)) (h1 : sN (mS M) + 2 ≤ 600300) (h2 : sSl (mS M) + 1519 ≤ 7302250) : fX6_init fu (sN (mS M)) (nO M 6 5) = some (sG (nA (nO M 6 5) 100 1514) 384 (sN (mS M)) (some (sN (mS M) + 1))) := by
  unfold fX6_init
  have e1 : mkA (nO M 6 5) 100 (1514 : Int32) = some (sN (mS M) + 1, nA (nO M 6 5) 100 1514) := by
    unfold mkA
    rw [if_pos]
    · rfl
    · refine ⟨by decide, ?_, ?_⟩
      · show sN (mS M) + 1 + 1 ≤ 600300
        omega
      · show sSl (mS M) + 5 + 1514 ≤ 7302250
        omega
  rw [e1, b2_some, pG_ok, ob_some]
  refine ⟨h0, ?_, ?_⟩
  · show sN (mS M) < sN (mS M) + 1 + 1
    omega
  · show (if sN (mS M) = sN (mS M) + 1 then 100 else (if sN (mS M) = sN (mS M) then 6 else _)) = _
    rw [if_neg (by omega), if_pos rfl]
theorem pB_ok {t c a k : Nat} {o : Nat} (ht : t = 110 + c) (h : okA M t a) (hi : k < sLen (mS M) a) (h31 : k < 2 ^ 31) (ho : okA M c o) : pB M c (some a) (nI k) (some o) = some (sB M a k (some o)) := by
  subst ht
  have e := nI_clamp h31
  have hp := nI_pos h31
  show (if ((300 ≤ a ∧ a < sN (mS M) ∧ sTy (mS M) a = 110 + c) ∧ ¬ nI k < 0 ∧ (nI k).toNatClampNeg < sLen (mS M) a) ∧ decide (300 ≤ o ∧ o < sN (mS M) ∧ sTy (mS M) o = c) = true then some (sB M a (nI k).toNatClampNeg (some o)) else none) = _
  rw [e, if_pos ⟨⟨h, hp, hi⟩, decide_eq_true ho⟩]
end NPk
/-- bytes of a packet that goes out -/
def pkB (g k : Nat → Int32) (n : Nat) : Nat → Int32 := fun j => if j < n then g j else if j < 60 then 0 else k j
def wputM (M : Mm) (src p n T : Nat) : Mm := sF (sF (sF (wA M (p + 1) (pkB (mA M src) (mA M (p + 1)) n)) 385 p (nI (max n 60))) 386 p (mF M 641 304)) 642 304 (nI (T + 1))
theorem sC_wA (M : Mm) (a b n : Nat) : sC M a 0 b 0 n = wA M b (fun j => if j < n then mA M a j else mA M b j) := by
  unfold sC wA mA
  have h : (fun (c j : Nat) => if c = b ∧ 0 ≤ j ∧ j < 0 + n then M.2.2.1 a (0 + (j - 0)) else M.2.2.1 c j) = (fun (c j : Nat) => if c = b then (if j < n then M.2.2.1 a j else M.2.2.1 b j) else M.2.2.1 c j) := by
    funext c j
    by_cases hc : c = b
    · subst hc
      by_cases hj : j < n <;> simp [hj]
    · simp [hc]
  rw [h]
theorem cpB_ok {M : Mm} {a b sp dp n : Nat} (ha : okA M 100 a) (hb : okA M 100 b) (hn : a ≠ b) (h1 : sp + n ≤ sLen (mS M) a) (h2 : dp + n ≤ sLen (mS M) b) (h3 : sLen (mS M) a < 2 ^ 30) (h4 : sLen (mS M) b < 2 ^ 30) : cpB M (some a) (nI sp) (some b) (nI dp) (nI n) = some (sC M a sp b dp n) := by
  unfold cpB
  have e1 := nI_clamp (show sp < 2 ^ 31 by omega)
  have e2 := nI_clamp (show dp < 2 ^ 31 by omega)
  have e3 := nI_clamp (show n < 2 ^ 31 by omega)
  simp only [e1, e2, e3]
  rw [if_pos ⟨ha, hb, hn, nI_pos (by omega), nI_pos (by omega), nI_pos (by omega), h1, h2⟩]
theorem x_wput_fill (fu : Nat) {M : Mm} (hW : XW M) {p : Nat} (hp : okA M 6 p) (hg : (mG M 384 p) = some (p + 1)) (hb : okA M 100 (p + 1)) (hl : sLen (mS M) (p + 1) = 1514) (n T : Nat) (hn : n ≤ 1514) (hT : (mF M 642 304) = nI T) (h304 : p ≠ 304) : ∀ (m k : Nat) (g : Nat → Int32), n ≤ k → 60 ≤ k + m → k ≤ 1514 →
    fX10_put_L88 fu (m + 1) 304 (nI n) (some p) (nI k) (wA M (p + 1) g) = some (sF (sF (sF (wA M (p + 1) (fun j => if k ≤ j ∧ j < 60 then 0 else g j)) 385 p (nI (max n 60))) 386 p (mF M 641 304)) 642 304 (nI (T + 1))) := by
  have fin : ∀ m k g, n ≤ k → 60 ≤ k → k ≤ 1514 → fX10_put_L88 fu (m + 1) 304 (nI n) (some p) (nI k) (wA M (p + 1) g) = some (sF (sF (sF (wA M (p + 1) (fun j => if k ≤ j ∧ j < 60 then 0 else g j)) 385 p (nI (max n 60))) 386 p (mF M 641 304)) 642 304 (nI (T + 1))) := by
    intro m k g h1 h2 h3
    have c1 : (60 : Int32) ≤ nI k := nI_le (a := 60) h2 (by omega)
    have e2 : jmax (nI n) (60 : Int32) = nI (max n 60) := jmax_nI (b := 60) (by omega) (by omega)
    have e3 : (fun j => if k ≤ j ∧ j < 60 then 0 else g j) = g := by
      funext j
      rw [if_neg (by omega)]
    rw [fX10_put_L88, if_pos c1, e2, e3]
    simp only [pF_ok, gI_ok, ok_wA, ok_sF, hp, xw_ok304 hW, ob_some, mF_wA, mF_sF, hT, nI_1, reduceIte, Nat.reduceEqDiff, Nat.reduceAdd, Nat.reduceMul, Nat.reduceLT, Nat.reduceLeDiff, and_true, true_and, and_false, false_and, and_self, ne_eq, not_true_eq_false, not_false_eq_true, Option.some.injEq, reduceCtorEq]
  intro m
  induction m with
  | zero => intro k g h1 h2 h3; exact fin 0 k g h1 (by omega) h3
  | succ m ih =>
    intro k g h1 h2 h3
    by_cases hk : 60 ≤ k
    · exact fin _ k g h1 hk h3
    · have c1 : ¬ (60 : Int32) ≤ nI k := nI_ge (b := 60) (by omega) (by omega)
      rw [fX10_put_L88, if_neg c1]
      simp only [gR_ok, ok_wA, hp, ob_some, mG_wA, hg]
      rw [pA_ok (by rw [ok_wA]; exact hb) (by rw [sL_wA, hl]; omega) (by omega), ob_some, mA_wA_self, wA_wA, nI_1, ih (k + 1) _ (by omega) (by omega) (by omega)]
      have e4 : ∀ g1 g2 : Nat → Int32, g1 = g2 → wA M (p + 1) g1 = wA M (p + 1) g2 := fun _ _ e => by rw [e]
      rw [e4 _ _ (show (fun j => if k + 1 ≤ j ∧ j < 60 then 0 else if j = k then Int8.toInt32 (Int32.toInt8 (0 : Int32)) else g j) = (fun j => if k ≤ j ∧ j < 60 then 0 else g j) from ?_)]
      funext j
      by_cases hj : j = k
      · subst hj
        rw [if_neg (by omega), if_pos rfl, if_pos (by omega)]
        rfl
      · by_cases hq : k ≤ j ∧ j < 60
        · rw [if_pos hq, if_pos (by omega)]
        · rw [if_neg hq, if_neg (by omega), if_neg hj]
theorem x_wput_L73 (fu : Nat) (hf : 61 ≤ fu) {M : Mm} (hW : XW M) {p src : Nat} (hp : okA M 6 p) (hg : (mG M 384 p) = some (p + 1)) (hb : okA M 100 (p + 1)) (hl : sLen (mS M) (p + 1) = 1514) (hs : okA M 100 src) (hsl : sLen (mS M) src < 2 ^ 30) (hne : src ≠ p + 1) (n T : Nat) (hn : n ≤ 1514) (hns : n ≤ sLen (mS M) src) (hT : (mF M 642 304) = nI T) :
    fX10_put_L73 fu 304 (some src) (nI n) (some p) M = some (wputM M src p n T) := by
  unfold fX10_put_L73
  have h304 : p ≠ 304 := by
    rintro rfl
    have h1 := (xw_ok304 hW).2.2
    rw [hp.2.2] at h1
    cases h1
  simp only [gR_ok, hp, ob_some, hg]
  have e1 : cpB M (some src) (0 : Int32) (some (p + 1)) (0 : Int32) (nI n) = some (sC M src 0 (p + 1) 0 n) := cpB_ok (sp := 0) (dp := 0) hs hb hne (by omega) (by omega) hsl (by omega)
  obtain ⟨m, rfl⟩ : ∃ m, fu = m + 1 := ⟨fu - 1, by omega⟩
  rw [e1, ob_some, sC_wA, x_wput_fill (m + 1) hW hp hg hb hl n T hn hT h304 m n _ (by omega) (by omega) (by omega)]
  unfold wputM
  have e4 : ∀ g1 g2 : Nat → Int32, g1 = g2 → wA M (p + 1) g1 = wA M (p + 1) g2 := fun _ _ e => by rw [e]
  rw [e4 _ _ (show (fun j => if n ≤ j ∧ j < 60 then 0 else if j < n then mA M src j else mA M (p + 1) j) = pkB (mA M src) (mA M (p + 1)) n from ?_)]
  funext j
  unfold pkB
  by_cases h1 : j < n
  · rw [if_neg (by omega), if_pos h1, if_pos h1]
  · rw [if_neg h1, if_neg h1]
    by_cases h2 : j < 60
    · rw [if_pos (by omega), if_pos h2]
    · rw [if_neg (by omega), if_neg h2]
theorem x_wput (fu : Nat) (hf : 61 ≤ fu) {M : Mm} (hW : XW M) {p src : Nat} (n T : Nat) (h42 : 42 ≤ n) (hn : n ≤ 1514) (hT : (mF M 642 304) = nI T) (hT2 : T < 2 ^ 30) (hs : okA M 100 src) (hsl : sLen (mS M) src < 2 ^ 30) (hns : n ≤ sLen (mS M) src)
    (hr : mB M 306 (T % 32) = some p) (hp : okA M 6 p) (hg : (mG M 384 p) = some (p + 1)) (hb : okA M 100 (p + 1)) (hl : sLen (mS M) (p + 1) = 1514) (hne : src ≠ p + 1) :
    fX10_put fu 304 (some src) (nI n) M = some (wputM M src p n T) := by
  unfold fX10_put
  have c1 : ¬ nI n < (42 : Int32) := nI_nlt (b := 42) h42 (by omega)
  have c2 : ¬ (1514 : Int32) < nI n := nI_nlt (a := 1514) hn (by omega)
  have e3 : irm (nI T) (32 : Int32) = nI (T % 32) := irm_nI (d := 32) (by omega) (by omega) (by omega)
  rw [if_neg c1, if_neg c2, aL_ok hs rfl, ob_some, if_pos (nI_le hns (by omega)), gI_ok (xw_ok304 hW), ob_some, hT, e3, if_pos (nI_pos' (by omega)), gR_ok (xw_ok304 hW), ob_some, xw_g644_304 hW, gB_ok (xw_ok306 hW) (by rw [xw_ln306 hW]; omega) (by omega), ob_some, hr, if_neg (by simp)]
  exact x_wput_L73 fu hf hW hp hg hb hl hs hsl hne n T hn hns hT
theorem XW_of {M M' : Mm} (hN : 450 ≤ sN (mS M)) (hN' : sN (mS M) ≤ sN (mS M')) (hT : ∀ a, a < sN (mS M) → sTy (mS M') a = sTy (mS M) a ∧ sLen (mS M') a = sLen (mS M) a) (hG : ∀ f a, a < sN (mS M) → mG M' f a = mG M f a) (h : XW M) : XW M' := by
  have h1 : ∀ f a, a < 450 → mG M' f a = mG M f a := fun f a ha => hG f a (by omega)
  have h2 : ∀ a, a < 450 → sLen (mS M') a = sLen (mS M) a := fun a ha => (hT a (by omega)).2
  have h3 : ∀ t a, a < 450 → okA M' t a = okA M t a := fun t a ha => by
    unfold okA
    rw [(hT a (by omega)).1]
    exact propext ⟨fun q => ⟨q.1, by omega, q.2.2⟩, fun q => ⟨q.1, by omega, q.2.2⟩⟩
  unfold XW at h ⊢
  simp only [h1, h2, h3, Nat.reduceLT]
  exact h
