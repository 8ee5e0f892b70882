/-! ===== part 98a: bytes that came are taken out, in both ===== -/
section Take
variable {A A' M M' : Mm}
/-- the rows of the reference after i steps of taking n bytes out -/
def tkT (th : Nat → Int32) (n i : Nat) : Nat → Int32 := fun j => if j < i then (if j + n < 4096 ∧ th (j + n) ≠ 0 then 1 else 0) else th j
def tkR (r : Nat → Int32) (n i : Nat) : Nat → Int32 := fun j => if j < i ∧ j + n < 4096 then r (j + n) else r j
def tkA (A : Mm) (k n i : Nat) : Mm := wA (wA A (345 + 4 * k) (tkT (mA A (345 + 4 * k)) n i)) (344 + 4 * k) (tkR (mA A (344 + 4 * k)) n i)
theorem tkA_0 (k n : Nat) : tkA A k n 0 = A := by
  unfold tkA
  have e1 : tkT (mA A (345 + 4 * k)) n 0 = mA A (345 + 4 * k) := by
    funext j
    unfold tkT
    rw [if_neg (by omega)]
  have e2 : tkR (mA A (344 + 4 * k)) n 0 = mA A (344 + 4 * k) := by
    funext j
    unfold tkR
    rw [if_neg (by omega)]
  rw [e1, e2, wA_mA, wA_mA]
theorem m_take_step (fu m : Nat) (hR : RW A) {k n i : Nat} (hk : k < 16) (hn : n ≤ 4096) (hi : i < 4096) (hB : ∀ j, isB (mA A (344 + 4 * k) j)) : fX16_take_L2 fu (m + 1) (some (342 + 4 * k)) (nI n) (nI i) (tkA A k n i) = fX16_take_L2 fu m (some (342 + 4 * k)) (nI n) (nI (i + 1)) (tkA A k n (i + 1)) := by
  have hR1 : RW (tkA A k n i) := hR
  have hA1 := rw_cnO hR1 k hk
  have oT := rw_cnT hR1 k hk
  have lT := rw_cnTl hR1 k hk
  have tT : mA (tkA A k n i) (345 + 4 * k) = tkT (mA A (345 + 4 * k)) n i := by
    unfold tkA
    rw [mA_wA_ne (by omega), mA_wA_self]
  have tR : mA (tkA A k n i) (344 + 4 * k) = tkR (mA A (344 + 4 * k)) n i := by
    unfold tkA
    rw [mA_wA_self]
  have i4 : ¬ (4096 : Int32) ≤ nI i := nI_ge (b := 4096) hi (by decide)
  have one0 : ¬ (1 : Int32) = 0 := by decide
  -- what is written
  have fin : ∀ (x : Int32), (x = if i + n < 4096 ∧ mA A (345 + 4 * k) (i + n) ≠ 0 then 1 else 0) → ∀ B, B = wA (tkA A k n i) (345 + 4 * k) (fun j => if j = i then x else mA (tkA A k n i) (345 + 4 * k) j) → wA B (344 + 4 * k) (tkR (mA A (344 + 4 * k)) n (i + 1)) = tkA A k n (i + 1) := fun x hx B hB' => by
    subst hB'
    unfold tkA
    rw [wA_cm (show 344 + 4 * k ≠ 345 + 4 * k by omega), wA_wA, wA_cm (show 345 + 4 * k ≠ 344 + 4 * k by omega), wA_cm (show 344 + 4 * k ≠ 345 + 4 * k by omega), wA_wA]
    congr 2
    funext j
    rw [mA_wA_ne (show 345 + 4 * k ≠ 344 + 4 * k by omega), mA_wA_self]
    unfold tkT
    by_cases e : j = i
    · rw [if_pos e, if_pos (by omega), hx, e]
    · rw [if_neg e]
      by_cases q : j < i
      · rw [if_pos q, if_pos (show j < i + 1 by omega)]
      · rw [if_neg q, if_neg (show ¬ j < i + 1 by omega)]
  have pT : ∀ x : Int32, pA (tkA A k n i) 102 (some (345 + 4 * k)) (nI i) x = some (wA (tkA A k n i) (345 + 4 * k) (fun j => if j = i then x else mA (tkA A k n i) (345 + 4 * k) j)) := fun x => pA_ok oT (by rw [lT]; omega) (by omega)
  rw [fX16_take_L2, if_neg i4, nI_add]
  by_cases q : i + n < 4096
  · rw [if_neg (show ¬ (4096 : Int32) ≤ nI (i + n) from nI_ge (b := 4096) q (by decide))]
    have gT : gA (tkA A k n i) 102 (some (345 + 4 * k)) (nI (i + n)) = some (mA A (345 + 4 * k) (i + n)) := by
      rw [gA_ok oT (by rw [lT]; omega) (by omega), tT]
      unfold tkT
      rw [if_neg (by omega)]
    have body : ∀ x : Int32, (x = if i + n < 4096 ∧ mA A (345 + 4 * k) (i + n) ≠ 0 then 1 else 0) → fX16_take_L51 fu (fun b1 b2 b3 M => fX16_take_L2 fu m b1 b2 b3 M) (some (342 + 4 * k)) (nI n) (nI i) 1 (some (345 + 4 * k)) (nI i) x (tkA A k n i) = fX16_take_L2 fu m (some (342 + 4 * k)) (nI n) (nI (i + 1)) (tkA A k n (i + 1)) := fun x hx => by
      unfold fX16_take_L51 fX16_take_L71
      have hx1 : x &&& 1 = x := by
        rw [hx]
        split <;> decide
      rw [hx1, pT, ob_some, if_neg one0]
      generalize hB1 : wA (tkA A k n i) (345 + 4 * k) (fun j => if j = i then x else mA (tkA A k n i) (345 + 4 * k) j) = B1
      have hRB : RW B1 := by subst hB1; exact hR
      have rB : mA B1 (344 + 4 * k) = tkR (mA A (344 + 4 * k)) n i := by subst hB1; rw [mA_wA_ne (by omega)]; exact tR
      have gR1 : gA B1 100 (some (344 + 4 * k)) (nI (i + n)) = some (mA A (344 + 4 * k) (i + n)) := by
        rw [gA_ok (rw_cnR hRB k hk) (by rw [rw_cnRl hRB k hk]; omega) (by omega), rB]
        unfold tkR
        rw [if_neg (by omega)]
      have pR1 : pA B1 100 (some (344 + 4 * k)) (nI i) (Int8.toInt32 (Int32.toInt8 (mA A (344 + 4 * k) (i + n)))) = some (wA B1 (344 + 4 * k) (tkR (mA A (344 + 4 * k)) n (i + 1))) := by
        rw [hB (i + n), pA_ok (rw_cnR hRB k hk) (by rw [rw_cnRl hRB k hk]; omega) (by omega), rB]
        congr 2
        funext j
        unfold tkR
        by_cases e : j = i
        · rw [if_pos e, if_pos (by omega), e]
        · rw [if_neg e]
          by_cases q : j < i ∧ j + n < 4096
          · rw [if_pos q, if_pos (by omega)]
          · rw [if_neg q, if_neg (by omega)]
      rw [gR_ok (rw_cnO hRB k hk), ob_some, ob_some, rw_cnRg hRB k hk, nI_add, gR1, ob_some, pR1, ob_some, fin x hx B1 hB1.symm, nI_1]
    unfold fX16_take_L23 fX16_take_L50
    rw [gR_ok hA1, ob_some, if_neg one0, ob_some, rw_cnTg hR1 k hk, nI_add, gT, ob_some]
    by_cases z : mA A (345 + 4 * k) (i + n) = 0
    · rw [if_pos z]
      exact body 0 (by rw [if_neg (fun e => e.2 z)])
    · rw [if_neg z]
      exact body 1 (by rw [if_pos ⟨q, z⟩])
  · rw [if_pos (show (4096 : Int32) ≤ nI (i + n) from nI_le (a := 4096) (by omega) (by omega))]
    unfold fX16_take_L23 fX16_take_L50 fX16_take_L51 fX16_take_L71
    rw [gR_ok hA1, ob_some, if_pos rfl, rw_cnTg hR1 k hk, show (0 : Int32) &&& 1 = 0 from by decide, pT, ob_some, if_pos rfl, nI_1]
    have e0 : (0 : Int32) = if i + n < 4096 ∧ mA A (345 + 4 * k) (i + n) ≠ 0 then 1 else 0 := by rw [if_neg (fun e => q e.1)]
    have := fin 0 e0 _ rfl
    rw [← this]
    congr 1
    have e1 : tkR (mA A (344 + 4 * k)) n (i + 1) = mA (wA (tkA A k n i) (345 + 4 * k) (fun j => if j = i then 0 else mA (tkA A k n i) (345 + 4 * k) j)) (344 + 4 * k) := by
      rw [mA_wA_ne (by omega), tR]
      funext j
      unfold tkR
      by_cases q2 : j < i ∧ j + n < 4096
      · rw [if_pos q2, if_pos (by omega)]
      · rw [if_neg q2, if_neg (by omega)]
    rw [e1, wA_mA]
theorem m_take (fu : Nat) (hfu : 4100 ≤ fu) (hR : RW A) {k n : Nat} (hk : k < 16) (hn : n ≤ 4096) (hB : ∀ j, isB (mA A (344 + 4 * k) j)) : fX16_take fu 323 (some (342 + 4 * k)) (nI n) A = (if ((4096 : Int32) - hldA (sF (tkA A k n 4096) 803 (342 + 4 * k) ((mF A 803 (342 + 4 * k)) + nI n)) k) - (mF A 805 (342 + 4 * k)) < (2048 : Int32) then some (sF (tkA A k n 4096) 803 (342 + 4 * k) ((mF A 803 (342 + 4 * k)) + nI n)) else some (sF (sF (tkA A k n 4096) 803 (342 + 4 * k) ((mF A 803 (342 + 4 * k)) + nI n)) 807 (342 + 4 * k) 1)) := by
  have hl := lp0 (fun m i => fX16_take_L2 fu m (some (342 + 4 * k)) (nI n) (nI i) (tkA A k n i)) (k := 4096) (fun m j hj => m_take_step fu m hR hk hn hj hB) (fu := fu) (by omega)
  unfold fX16_take
  have h0 : fX16_take_L2 fu fu (some (342 + 4 * k)) (nI n) (0 : Int32) A = fX16_take_L2 fu fu (some (342 + 4 * k)) (nI n) (nI 0) (tkA A k n 0) := by rw [tkA_0]; rfl
  rw [h0]
  refine hl.trans ?_
  have hR1 : RW (tkA A k n 4096) := hR
  have hA1 := rw_cnO hR1 k hk
  show fX16_take_L2 fu (fu - 4096) (some (342 + 4 * k)) (nI n) (nI 4096) (tkA A k n 4096) = _
  rw [show fu - 4096 = (fu - 4097) + 1 by omega, fX16_take_L2, if_pos (show (4096 : Int32) ≤ nI 4096 by decide), gI_ok hA1, ob_some, pF_ok hA1, ob_some]
  have hR2 : RW (sF (tkA A k n 4096) 803 (342 + 4 * k) (mF (tkA A k n 4096) 803 (342 + 4 * k) + nI n)) := hR
  have hA2 := rw_cnO hR2 k hk
  rw [rc_ok hA2, ob_some, m_open hR2 hk, b2_some, gI_ok hA2, ob_some]
  have e5 : mF (sF (tkA A k n 4096) 803 (342 + 4 * k) (mF (tkA A k n 4096) 803 (342 + 4 * k) + nI n)) 805 (342 + 4 * k) = (mF A 805 (342 + 4 * k)) := by rw [mF_sF, if_neg (by omega)]; rfl
  have e3 : mF (tkA A k n 4096) 803 (342 + 4 * k) = (mF A 803 (342 + 4 * k)) := rfl
  rw [e5, e3]
  split
  · rfl
  · rw [pZ_ok (by rw [ok_sF]; exact hA1) (Or.inr rfl), ob_some]
/-- the rows after n bytes were taken out -/
theorem RT_take {rd : Int32} {hd n : Nat} {th rA aM rM : Nat → Int32} (h : RT rd hd th rA aM rM) (hn : n ≤ hd) (hd1 : hd ≤ 4096) : RT (rd + nI n) (hd - n) (tkT th n 4096) (tkR rA n 4096) aM rM := by
  obtain ⟨g1, g2⟩ := h
  have es : ∀ j, slot (rd + nI n + nI j) = slot (rd + nI (j + n)) := fun j => by rw [Int32.add_assoc, nI_add, Nat.add_comm]
  refine ⟨fun j hj => ?_, fun j hj => ?_⟩
  · unfold tkR
    rw [if_pos (by omega), es]
    exact g1 (j + n) (by omega)
  · rw [es]
    unfold tkT tkR
    rw [if_pos hj]
    by_cases q : j + n < 4096
    · obtain ⟨k1, k2, k3⟩ := g2 (j + n) q
      rw [if_pos (⟨hj, q⟩ : j < 4096 ∧ j + n < 4096)]
      refine ⟨fun e => ?_, fun e => ?_, k3⟩
      · obtain ⟨y1, y2⟩ := k1 (by omega)
        rw [if_pos ⟨q, by rw [y1]; decide⟩]
        exact ⟨rfl, y2⟩
      · have := k2 (by omega)
        cases hb : bitOf aM (slot (rd + nI (j + n))) with
        | true =>
          rw [hb, if_pos rfl] at this
          rw [if_pos ⟨q, by rw [this]; decide⟩, if_pos rfl]
        | false =>
          rw [hb, if_neg (by decide)] at this
          rw [if_neg (fun e => e.2 this), if_neg (by decide)]
    · have e2 : slot (rd + nI (j + n)) = slot (rd + nI (j + n - 4096)) := by
        rw [slot_add, slot_add]; omega
      have hb := ((g2 (j + n - 4096) (by omega)).1 (by omega)).2
      rw [e2, hb]
      refine ⟨fun e => by omega, fun _ => ?_, fun e => by cases e⟩
      rw [if_neg (fun e => q e.1), if_neg (by decide)]
end Take
