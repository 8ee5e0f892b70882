/-! ===== part 72: the head of a packet, the hop, the question for a hop ===== -/
/-- the twenty bytes of the head, its sum still 0 -/
def ih (g : Nat → Int32) (len id proto ip to : Int32) : Nat → Int32 := up4 (up4 (up2 (up2 (up2 (up2 (up2 (up2 g 14 17664) 16 len) 18 id) 20 16384) 22 ((16384 : Int32) ||| proto)) 24 0) 26 ip) 30 to
theorem ih_c {g g' : Nat → Int32} {len id proto ip to : Int32} {j : Nat} (h : (j < 14 ∨ 34 ≤ j) → g j = g' j) : ih g len id proto ip to j = ih g' len id proto ip to j := by
  unfold ih
  refine up4_c fun _ _ _ _ => up4_c fun _ _ _ _ => up2_c fun _ _ => up2_c fun _ _ => up2_c fun _ _ => up2_c fun _ _ => up2_c fun _ _ => up2_c fun _ _ => h (by omega)
/-- with its sum -/
def ihs (g : Nat → Int32) (len id proto ip to : Int32) : Nat → Int32 := up2 (ih g len id proto ip to) 24 (nI (65535 - f16 (f16 (sm (ih g len id proto ip to) 14 20))))
theorem ihs_c {g g' : Nat → Int32} {len id proto ip to : Int32} {j : Nat} (h : (j < 14 ∨ 34 ≤ j) → g j = g' j) : ihs g len id proto ip to j = ihs g' len id proto ip to j := by
  unfold ihs
  have e : sm (ih g len id proto ip to) 14 20 = sm (ih g' len id proto ip to) 14 20 := sm_congr 20 (fun k hk => ih_c (fun q => by omega))
  rw [e]
  exact up2_c fun _ _ => ih_c h
theorem ihs_o {g : Nat → Int32} {len id proto ip to : Int32} {j : Nat} (h : j < 14 ∨ 34 ≤ j) : ihs g len id proto ip to j = g j := by
  unfold ihs ih
  rw [up2_o (by omega), up4_o (by omega), up4_o (by omega), up2_o (by omega), up2_o (by omega), up2_o (by omega), up2_o (by omega), up2_o (by omega), up2_o (by omega)]
theorem isB_ihs {g : Nat → Int32} (h : ∀ j, isB (g j)) (len id proto ip to : Int32) : ∀ j, isB (ihs g len id proto ip to j) := isB_up2 (isB_up4 (isB_up4 (isB_up2 (isB_up2 (isB_up2 (isB_up2 (isB_up2 (isB_up2 h _ _) _ _) _ _) _ _) _ _) _ _) _ _) _ _) _ _
theorem x_fillHeader {M : Mm} (h : XW M) {fu : Nat} (hf : 30 ≤ fu) (to proto len : Int32) :
    fX4_fillHeader fu 307 to proto len M = some (sF (wA M 308 (ihs (mA M 308) ((20 : Int32) + len) (mF M 264 307) proto (mF M 257 307) to)) 264 307 (((mF M 264 307) + (1 : Int32)) &&& (65535 : Int32))) := by
  unfold fX4_fillHeader
  have hl : sLen (mS M) 308 < 2 ^ 30 := by rw [xw_ln308 h]; decide
  have hadd : ∀ (M1 : Mm), okA M1 100 308 → sLen (mS M1) 308 = 1514 → fX11_added fu (some 308) (14 : Int32) (20 : Int32) (0 : Int32) M1 = some (nI (f16 (f16 (sm (mA M1 308) 14 20))), M1) := by
    intro M1 h1 h2
    have hb := sm_le (mA M1 308) 14 20
    have := x_added (M := M1) (a := 308) (f := 14) (e := 20) (s0 := 0) (fu := fu) h1 (by rw [h2]; decide) (by rw [h2]; decide) (by omega) (by omega)
    rw [Nat.zero_add] at this
    exact this
  simp only [gR_ok, gI_ok, ok_wA, xw_ok307 h, ob_some, mG_wA, xw_g256_307 h, (fun v M a (h : okA M 100 a) (hl : sLen (mS M) a < 2 ^ 30) (hi : 14 + 2 ≤ sLen (mS M) a) => show fX11_putTwo fu (some a) (14 : Int32) v M = some (wA M a (up2 (mA M a) 14 v)) from x_put2 fu h hl (i := 14) hi v), (fun v M a (h : okA M 100 a) (hl : sLen (mS M) a < 2 ^ 30) (hi : 16 + 2 ≤ sLen (mS M) a) => show fX11_putTwo fu (some a) (16 : Int32) v M = some (wA M a (up2 (mA M a) 16 v)) from x_put2 fu h hl (i := 16) hi v), (fun v M a (h : okA M 100 a) (hl : sLen (mS M) a < 2 ^ 30) (hi : 18 + 2 ≤ sLen (mS M) a) => show fX11_putTwo fu (some a) (18 : Int32) v M = some (wA M a (up2 (mA M a) 18 v)) from x_put2 fu h hl (i := 18) hi v), (fun v M a (h : okA M 100 a) (hl : sLen (mS M) a < 2 ^ 30) (hi : 20 + 2 ≤ sLen (mS M) a) => show fX11_putTwo fu (some a) (20 : Int32) v M = some (wA M a (up2 (mA M a) 20 v)) from x_put2 fu h hl (i := 20) hi v), (fun v M a (h : okA M 100 a) (hl : sLen (mS M) a < 2 ^ 30) (hi : 22 + 2 ≤ sLen (mS M) a) => show fX11_putTwo fu (some a) (22 : Int32) v M = some (wA M a (up2 (mA M a) 22 v)) from x_put2 fu h hl (i := 22) hi v), (fun v M a (h : okA M 100 a) (hl : sLen (mS M) a < 2 ^ 30) (hi : 24 + 2 ≤ sLen (mS M) a) => show fX11_putTwo fu (some a) (24 : Int32) v M = some (wA M a (up2 (mA M a) 24 v)) from x_put2 fu h hl (i := 24) hi v), (fun v M a (h : okA M 100 a) (hl : sLen (mS M) a < 2 ^ 30) (hi : 26 + 4 ≤ sLen (mS M) a) => show fX11_putFour fu (some a) (26 : Int32) v M = some (wA M a (up4 (mA M a) 26 v)) from x_put4 fu h hl (i := 26) hi v), (fun v M a (h : okA M 100 a) (hl : sLen (mS M) a < 2 ^ 30) (hi : 30 + 4 ≤ sLen (mS M) a) => show fX11_putFour fu (some a) (30 : Int32) v M = some (wA M a (up4 (mA M a) 30 v)) from x_put4 fu h hl (i := 30) hi v), xw_ok308 h, sL_wA, xw_ln308 h, Nat.reduceAdd, Nat.reduceLeDiff, Nat.reducePow, Nat.reduceLT, mF_wA, mA_wA_self, wA_wA, hadd, b2_some, pF_ok]
  have hb := sm_le (ih (mA M 308) ((20 : Int32) + len) (mF M 264 307) proto (mF M 257 307) to) 14 20
  have e := up2_bits (g := ih (mA M 308) ((20 : Int32) + len) (mF M 264 307) proto (mF M 257 307) to) (i := 24) (not_sixteen (f16_2 (show sm (ih (mA M 308) ((20 : Int32) + len) (mF M 264 307) proto (mF M 257 307) to) 14 20 < 2 ^ 31 by omega)))
  unfold ihs
  rw [← e]
  rfl
theorem m_addF {A : Mm} (h : RW A) {fu : Nat} (hf : 30 ≤ fu) : fX16_added fu (some 331) (14 : Int32) (20 : Int32) (0 : Int64) A = some (lN (sm (mA A 331) 14 20), A) := by
  have := m_added (M := A) (a := 331) (f := 14) (e := 20) (s0 := 0) (fu := fu) (rw_ok331 h) (by rw [rw_ln331 h]; decide) (by rw [rw_ln331 h]; decide) (by omega)
  rw [Nat.zero_add] at this
  exact this
/-- the hop -/
def netE (ip to : Int32) (b : Nat) : Prop := ∀ i, i < 32 → 32 - b ≤ i → bt to i = bt ip i
theorem net_m {x y : Int32} {s : Nat} (hs : s < 32) : ((x >>> (nI s &&& 31)) <<< (nI s &&& 31)) = ((y >>> (nI s &&& 31)) <<< (nI s &&& 31)) ↔ ∀ i, i < 32 → s ≤ i → bt x i = bt y i := by
  constructor
  · intro h i hi hsi
    have := congrArg (fun z => bt z i) h
    simp only [b_shl s hs _ hi, hsi, decide_true, Bool.true_and] at this
    rw [b_sshr s hs x (show i - s < 32 by omega), b_sshr s hs y (show i - s < 32 by omega), if_pos (by omega), if_pos (by omega), show s + (i - s) = i by omega] at this
    exact this
  · intro h
    apply b_ext
    intro i hi
    rw [b_shl s hs _ hi, b_shl s hs _ hi]
    by_cases hsi : s ≤ i
    · rw [b_sshr s hs x (show i - s < 32 by omega), b_sshr s hs y (show i - s < 32 by omega), if_pos (by omega), if_pos (by omega), show s + (i - s) = i by omega, h i hi hsi]
    · simp [hsi]
theorem net_x {x y : Int32} {s : Nat} (hs : s < 32) : ((x ^^^ y) &&& ((-1 : Int32) <<< (nI s &&& 31))) = 0 ↔ ∀ i, i < 32 → s ≤ i → bt x i = bt y i := by
  constructor
  · intro h i hi hsi
    have := congrArg (fun z => bt z i) h
    simp only [b_and, b_xor, b_0] at this
    rw [b_shl s hs _ hi, b_m1 (i - s) (by omega)] at this
    simp [hsi] at this
    exact this
  · intro h
    apply b_ext
    intro i hi
    rw [b_and, b_xor, b_0, b_shl s hs _ hi]
    by_cases hsi : s ≤ i
    · rw [h i hi hsi]; simp
    · simp [hsi]
theorem sub32 {b : Nat} (h : b ≤ 32) : (32 : Int32) - nI b = nI (32 - b) := pk_sub (a := 32) h
theorem net_same {x y : Int32} {b : Nat} (h8 : 8 ≤ b) (h30 : b ≤ 30) : ((x >>> (((32 : Int32) - nI b) &&& 31)) <<< (((32 : Int32) - nI b) &&& 31)) = ((y >>> (((32 : Int32) - nI b) &&& 31)) <<< (((32 : Int32) - nI b) &&& 31)) ↔ ((x ^^^ y) &&& ((-1 : Int32) <<< (nI (32 - b) &&& 31))) = 0 := by
  rw [sub32 (by omega), net_m (by omega), net_x (by omega)]
/-- the question for a hop, its link head still to come -/
def arpB (g : Nat → Int32) (op hi lo ip th tl tg : Int32) : Nat → Int32 := up4 (up4 (up2 (up4 (up4 (up2 (up2 (up2 (up4 g 14 67584) 18 1540) 20 op) 22 hi) 24 lo) 28 ip) 32 th) 34 tl) 38 tg
theorem arpB_c {g g' : Nat → Int32} {op hi lo ip th tl tg : Int32} {j : Nat} (h : (j < 14 ∨ 42 ≤ j) → g j = g' j) : arpB g op hi lo ip th tl tg j = arpB g' op hi lo ip th tl tg j := by
  unfold arpB
  refine up4_c fun _ _ _ _ => up4_c fun _ _ _ _ => up2_c fun _ _ => up4_c fun _ _ _ _ => up4_c fun _ _ _ _ => up2_c fun _ _ => up2_c fun _ _ => up2_c fun _ _ => up4_c fun _ _ _ _ => h (by omega)
theorem isB_arpB {g : Nat → Int32} (h : ∀ j, isB (g j)) (op hi lo ip th tl tg : Int32) : ∀ j, isB (arpB g op hi lo ip th tl tg j) := isB_up4 (isB_up4 (isB_up2 (isB_up4 (isB_up4 (isB_up2 (isB_up2 (isB_up2 (isB_up4 h _ _) _ _) _ _) _ _) _ _) _ _) _ _) _ _) _ _
theorem m_arpFrame {A : Mm} (h : RW A) {fu : Nat} (hf : 5 ≤ fu) (op toH toL th tl tg : Int32) :
    fX16_arpFrame fu 323 op toH toL th tl tg A = fX16_send fu 323 toH toL (2054 : Int32) (28 : Int32) (wA A 331 (arpB (mA A 331) op (mF A 1032 323) (mF A 1033 323) (mF A 1029 323) th tl tg)) := by
  unfold fX16_arpFrame
  simp only [rc_ok, ok_wA, rw_ok323 h, ob_some, rW_wA, h, (fun v M (h : RW M) => show fX16_put fu 323 (14 : Int32) 4 v M = some (wA M 331 (up4 (mA M 331) 14 v)) from m_put4 h hf (i := 14) (by decide) v), (fun v M (h : RW M) => show fX16_put fu 323 (18 : Int32) 2 v M = some (wA M 331 (up2 (mA M 331) 18 v)) from m_put2 h hf (i := 18) (by decide) v), (fun v M (h : RW M) => show fX16_put fu 323 (20 : Int32) 2 v M = some (wA M 331 (up2 (mA M 331) 20 v)) from m_put2 h hf (i := 20) (by decide) v), (fun v M (h : RW M) => show fX16_put fu 323 (22 : Int32) 2 v M = some (wA M 331 (up2 (mA M 331) 22 v)) from m_put2 h hf (i := 22) (by decide) v), (fun v M (h : RW M) => show fX16_put fu 323 (24 : Int32) 4 v M = some (wA M 331 (up4 (mA M 331) 24 v)) from m_put4 h hf (i := 24) (by decide) v), (fun v M (h : RW M) => show fX16_put fu 323 (28 : Int32) 4 v M = some (wA M 331 (up4 (mA M 331) 28 v)) from m_put4 h hf (i := 28) (by decide) v), (fun v M (h : RW M) => show fX16_put fu 323 (32 : Int32) 2 v M = some (wA M 331 (up2 (mA M 331) 32 v)) from m_put2 h hf (i := 32) (by decide) v), (fun v M (h : RW M) => show fX16_put fu 323 (34 : Int32) 4 v M = some (wA M 331 (up4 (mA M 331) 34 v)) from m_put4 h hf (i := 34) (by decide) v), (fun v M (h : RW M) => show fX16_put fu 323 (38 : Int32) 4 v M = some (wA M 331 (up4 (mA M 331) 38 v)) from m_put4 h hf (i := 38) (by decide) v), gI_ok, mF_wA, mA_wA_self, wA_wA]
  show (fX16_send fu 323 toH toL 2054 28 (wA A 331 (arpB (mA A 331) op (mF A 1032 323) (mF A 1033 323) (mF A 1029 323) th tl tg))).bind (fun M23 => some M23) = _
  cases fX16_send fu 323 toH toL 2054 28 (wA A 331 (arpB (mA A 331) op (mF A 1032 323) (mF A 1033 323) (mF A 1029 323) th tl tg)) <;> rfl
theorem x_fillArp {M : Mm} (h : XW M) (fu : Nat) (op th tl tg : Int32) :
    fX4_fillArp fu 307 op th tl tg M = some (wA M 308 (arpB (mA M 308) op (mF M 258 307) (mF M 259 307) (mF M 257 307) th tl tg)) := by
  unfold fX4_fillArp
  have hl : sLen (mS M) 308 < 2 ^ 30 := by rw [xw_ln308 h]; decide
  simp only [gR_ok, gI_ok, ok_wA, xw_ok307 h, ob_some, mG_wA, xw_g256_307 h, (fun v M a (h : okA M 100 a) (hl : sLen (mS M) a < 2 ^ 30) (hi : 14 + 4 ≤ sLen (mS M) a) => show fX11_putFour fu (some a) (14 : Int32) v M = some (wA M a (up4 (mA M a) 14 v)) from x_put4 fu h hl (i := 14) hi v), (fun v M a (h : okA M 100 a) (hl : sLen (mS M) a < 2 ^ 30) (hi : 18 + 2 ≤ sLen (mS M) a) => show fX11_putTwo fu (some a) (18 : Int32) v M = some (wA M a (up2 (mA M a) 18 v)) from x_put2 fu h hl (i := 18) hi v), (fun v M a (h : okA M 100 a) (hl : sLen (mS M) a < 2 ^ 30) (hi : 20 + 2 ≤ sLen (mS M) a) => show fX11_putTwo fu (some a) (20 : Int32) v M = some (wA M a (up2 (mA M a) 20 v)) from x_put2 fu h hl (i := 20) hi v), (fun v M a (h : okA M 100 a) (hl : sLen (mS M) a < 2 ^ 30) (hi : 22 + 2 ≤ sLen (mS M) a) => show fX11_putTwo fu (some a) (22 : Int32) v M = some (wA M a (up2 (mA M a) 22 v)) from x_put2 fu h hl (i := 22) hi v), (fun v M a (h : okA M 100 a) (hl : sLen (mS M) a < 2 ^ 30) (hi : 24 + 4 ≤ sLen (mS M) a) => show fX11_putFour fu (some a) (24 : Int32) v M = some (wA M a (up4 (mA M a) 24 v)) from x_put4 fu h hl (i := 24) hi v), (fun v M a (h : okA M 100 a) (hl : sLen (mS M) a < 2 ^ 30) (hi : 28 + 4 ≤ sLen (mS M) a) => show fX11_putFour fu (some a) (28 : Int32) v M = some (wA M a (up4 (mA M a) 28 v)) from x_put4 fu h hl (i := 28) hi v), (fun v M a (h : okA M 100 a) (hl : sLen (mS M) a < 2 ^ 30) (hi : 32 + 2 ≤ sLen (mS M) a) => show fX11_putTwo fu (some a) (32 : Int32) v M = some (wA M a (up2 (mA M a) 32 v)) from x_put2 fu h hl (i := 32) hi v), (fun v M a (h : okA M 100 a) (hl : sLen (mS M) a < 2 ^ 30) (hi : 34 + 4 ≤ sLen (mS M) a) => show fX11_putFour fu (some a) (34 : Int32) v M = some (wA M a (up4 (mA M a) 34 v)) from x_put4 fu h hl (i := 34) hi v), (fun v M a (h : okA M 100 a) (hl : sLen (mS M) a < 2 ^ 30) (hi : 38 + 4 ≤ sLen (mS M) a) => show fX11_putFour fu (some a) (38 : Int32) v M = some (wA M a (up4 (mA M a) 38 v)) from x_put4 fu h hl (i := 38) hi v), xw_ok308 h, sL_wA, xw_ln308 h, Nat.reduceAdd, Nat.reduceLeDiff, Nat.reducePow, Nat.reduceLT, mF_wA, mA_wA_self, wA_wA]
  rfl
theorem x_fillAsk {M : Mm} (h : XW M) (fu : Nat) (hop : Int32) :
    fX4_fillAsk fu 307 hop M = some (wA M 308 (hd5 (arpB (mA M 308) 1 (mF M 258 307) (mF M 259 307) (mF M 257 307) 0 0 hop) 65535 (-1) (mF M 258 307) (mF M 259 307) 2054)) := by
  unfold fX4_fillAsk
  rw [rc_ok (xw_ok307 h), ob_some, x_fillArp h, ob_some]
  have h1 : XW (wA M 308 (arpB (mA M 308) 1 (mF M 258 307) (mF M 259 307) (mF M 257 307) 0 0 hop)) := h
  rw [gR_ok (xw_ok307 h1), ob_some, rc_ok (xw_ok307 h1), ob_some, xw_g256_307 h1, x_fillLink h1 (xw_ok308 h1) (by rw [xw_ln308 h1]; decide) (by rw [xw_ln308 h1]; decide), ob_some, mA_wA_self, wA_wA]
  rfl
