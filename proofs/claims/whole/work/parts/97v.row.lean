/-! ===== part 97v: the row of what came, in both ===== -/
theorem slot_lt (x : Int32) : slot x < 4096 := Nat.mod_lt _ (by decide)
theorem slot_add (x : Int32) (j : Nat) : slot (x + nI j) = (slot x + j) % 4096 := by
  have e : (x + nI j).toBitVec.toNat = (x.toBitVec.toNat + j % 2 ^ 32) % 2 ^ 32 := by
    rw [Int32.toBitVec_add, BitVec.toNat_add]
    rfl
  unfold slot
  rw [e]
  omega
theorem slot_inj {x : Int32} {i j : Nat} (hi : i < 4096) (hj : j < 4096) (e : slot (x + nI i) = slot (x + nI j)) : i = j := by
  rw [slot_add, slot_add] at e
  have := slot_lt x
  omega
theorem and4095 (x : Int32) : x &&& (4095 : Int32) = nI (slot x) := pk_and x 12 (by decide)
theorem add_sub_l (x y : Int32) : x + y - x = y := by rw [Int32.add_comm, Int32.add_sub_cancel]
/-- what the rows of both say, of hd bytes that are in order from the number rd on -/
def RT (rd : Int32) (hd : Nat) (th rA aM rM : Nat → Int32) : Prop :=
  (∀ j, j < hd → rA j = rM (slot (rd + nI j))) ∧ ∀ j, j < 4096 → (j < hd → th j = 1 ∧ bitOf aM (slot (rd + nI j)) = false) ∧ (hd ≤ j → th j = (if bitOf aM (slot (rd + nI j)) then 1 else 0)) ∧ (bitOf aM (slot (rd + nI j)) = true → rA j = rM (slot (rd + nI j)))
section Row
variable {A A' A'' M M' M'' : Mm}
theorem RT_put {rd : Int32} {hd j : Nat} {th rA aM rM : Nat → Int32} (h : RT rd hd th rA aM rM) (h1 : hd ≤ j) (h2 : j < 4096) (x : Int32) : RT rd hd (fun i => if i = j then 1 else th i) (fun i => if i = j then x else rA i) (fun i => if i = slot (rd + nI j) / 32 then aM (slot (rd + nI j) / 32) ||| mskOf (slot (rd + nI j)) else aM i) (fun i => if i = slot (rd + nI j) then x else rM i) := by
  obtain ⟨g1, g2⟩ := h
  refine ⟨fun i hi => ?_, fun i hi => ?_⟩
  · have n1 : i ≠ j := by omega
    have n2 : slot (rd + nI i) ≠ slot (rd + nI j) := fun e => n1 (slot_inj (by omega) h2 e)
    show (if i = j then x else rA i) = (if slot (rd + nI i) = slot (rd + nI j) then x else rM (slot (rd + nI i)))
    rw [if_neg n1, if_neg n2]
    exact g1 i hi
  · rw [bitOf_set]
    obtain ⟨k1, k2, k3⟩ := g2 i hi
    by_cases e : i = j
    · subst e
      refine ⟨fun q => by omega, fun _ => ?_, fun _ => ?_⟩
      · show (if i = i then (1 : Int32) else th i) = _
        rw [if_pos rfl, decide_eq_true rfl, Bool.true_or, if_pos rfl]
      · show (if i = i then x else rA i) = (if slot (rd + nI i) = slot (rd + nI i) then x else rM (slot (rd + nI i)))
        rw [if_pos rfl, if_pos rfl]
    · have n2 : ¬ slot (rd + nI i) = slot (rd + nI j) := fun q => e (slot_inj hi h2 q)
      rw [decide_eq_false n2, Bool.false_or]
      refine ⟨fun q => ⟨?_, (k1 q).2⟩, fun q => ?_, fun q => ?_⟩
      · show (if i = j then (1 : Int32) else th i) = 1
        rw [if_neg e]; exact (k1 q).1
      · show (if i = j then (1 : Int32) else th i) = _
        rw [if_neg e]; exact k2 q
      · show (if i = j then x else rA i) = (if slot (rd + nI i) = slot (rd + nI j) then x else rM (slot (rd + nI i)))
        rw [if_neg e, if_neg n2]; exact k3 q
theorem RT_go {rd : Int32} {hd : Nat} {th rA aM rM : Nat → Int32} (h : RT rd hd th rA aM rM) (h2 : hd < 4096) (hb : bitOf aM (slot (rd + nI hd)) = true) : RT rd (hd + 1) th rA (fun i => if i = slot (rd + nI hd) / 32 then aM (slot (rd + nI hd) / 32) &&& (mskOf (slot (rd + nI hd)) ^^^ (-1)) else aM i) rM := by
  obtain ⟨g1, g2⟩ := h
  refine ⟨fun i hi => ?_, fun i hi => ?_⟩
  · by_cases e : i = hd
    · subst e
      exact (g2 i h2).2.2 hb
    · exact g1 i (by omega)
  · rw [bitOf_clr]
    obtain ⟨k1, k2, k3⟩ := g2 i hi
    by_cases e : i = hd
    · subst e
      refine ⟨fun _ => ⟨?_, ?_⟩, fun q => by omega, fun q => ?_⟩
      · rw [k2 (Nat.le_refl _), hb, if_pos rfl]
      · rw [decide_eq_true rfl]; rfl
      · rw [decide_eq_true rfl] at q; cases q
    · have n2 : ¬ slot (rd + nI i) = slot (rd + nI hd) := fun q => e (slot_inj hi h2 q)
      rw [decide_eq_false n2]
      refine ⟨fun q => ?_, fun q => ?_, fun q => ?_⟩
      · obtain ⟨y1, y2⟩ := k1 (by omega)
        exact ⟨y1, by rw [y2]; rfl⟩
      · rw [k2 (by omega)]
        cases bitOf aM (slot (rd + nI i)) <;> rfl
      · apply k3
        cases hh : bitOf aM (slot (rd + nI i)) with
        | true => rfl
        | false => rw [hh] at q; cases q
/-- is a number in the window -/
theorem inW (n nx : Int32) {w : Nat} (hw : w ≤ 4096) : (∃ j, j < w ∧ n = nx + nI j ∧ ¬ n - nx < 0 ∧ n - (nx + nI w) < 0 ∧ ¬ nI w ≤ n - nx) ∨ (n - nx < 0 ∨ (¬ n - nx < 0 ∧ ¬ n - (nx + nI w) < 0 ∧ nI w ≤ n - nx)) := by
  by_cases c : n - nx < 0
  · exact Or.inr (Or.inl c)
  · obtain ⟨j, hj, e⟩ := nI_of c
    have en : n = nx + nI j := by
      rw [← e, Int32.add_comm, Int32.sub_add_cancel]
    have e2 : n - (nx + nI w) = nI j - nI w := by rw [en, sub_b0]
    by_cases q : j < w
    · left
      refine ⟨j, q, en, c, ?_, ?_⟩
      · rw [e2]; exact pk_sneg (by omega) q
      · rw [e]; exact nI_ge q (by omega)
    · right; right
      refine ⟨c, ?_, ?_⟩
      · rw [e2, nI_sub (by omega)]; exact nI_pos (by omega)
      · rw [e]; exact nI_le (by omega) hj
def ArA (k : Nat) (A A' : Mm) : Prop := mS A' = mS A ∧ mG A' = mG A ∧ mB A' = mB A ∧ mF A' = mF A ∧ ∀ a, a ≠ 344 + 4 * k → a ≠ 345 + 4 * k → mA A' a = mA A a
def ArM (c : Nat) (M M' : Mm) : Prop := mS M' = mS M ∧ mG M' = mG M ∧ mB M' = mB M ∧ mF M' = mF M ∧ ∀ a, a ≠ c + 3 → a ≠ c + 4 → mA M' a = mA M a
theorem ArA.tr {k : Nat} (h : ArA k A A') (g : ArA k A' A'') : ArA k A A'' := ⟨g.1.trans h.1, g.2.1.trans h.2.1, g.2.2.1.trans h.2.2.1, g.2.2.2.1.trans h.2.2.2.1, fun a h1 h2 => (g.2.2.2.2 a h1 h2).trans (h.2.2.2.2 a h1 h2)⟩
theorem ArM.tr {c : Nat} (h : ArM c M M') (g : ArM c M' M'') : ArM c M M'' := ⟨g.1.trans h.1, g.2.1.trans h.2.1, g.2.2.1.trans h.2.2.1, g.2.2.2.1.trans h.2.2.2.1, fun a h1 h2 => (g.2.2.2.2 a h1 h2).trans (h.2.2.2.2 a h1 h2)⟩
theorem ArA.rf {k : Nat} : ArA k A A := ⟨rfl, rfl, rfl, rfl, fun _ _ _ => rfl⟩
theorem ArM.rf {c : Nat} : ArM c M M := ⟨rfl, rfl, rfl, rfl, fun _ _ _ => rfl⟩
/-- one byte of a segment, in both -/
theorem arr_step (fu m m2 : Nat) (hR : RW A) (hW : XW M) {k c hd dl da dx bd i : Nat} {sq rd : Int32} (hk : k < 16) (hC : CnO M c) (hB : ∀ j, isB (mA M bd j)) (hhd : hd ≤ 4096)
    (a1 : (mF A 1063 323) = nI dl) (a2 : (mF A 1058 323) = sq) (a3 : (mF A 803 (342 + 4 * k)) = rd) (a4 : (mF A 1062 323) = nI da) (x1 : (mF M 201 314) = nI dl) (x2 : (mF M 196 314) = sq) (x3 : (mF M 1 (c + 2)) = rd + nI hd) (x4 : (mF M 200 314) = nI dx) (x5 : (mG M 192 314) = some bd) (x6 : okA M 100 bd) (x7 : dx + dl ≤ sLen (mS M) bd) (x8 : sLen (mS M) bd < 2 ^ 30) (hda : da + dl ≤ 4096) (hi : i < dl) (hby : mA A 338 (da + i) = mA M bd (dx + i)) (hn3 : bd ≠ c + 3)
    (h : RT rd hd (mA A (345 + 4 * k)) (mA A (344 + 4 * k)) (mA M (c + 4)) (mA M (c + 3))) :
    ∃ A' M', fX16_arrived_L41 fu (m + 1) 323 (some (342 + 4 * k)) (nI (4096 - hd)) (rd + nI hd) (nI i) A = fX16_arrived_L41 fu m 323 (some (342 + 4 * k)) (nI (4096 - hd)) (rd + nI hd) (nI (i + 1)) A' ∧ fX0_putAhead_L7 fu (m2 + 1) (c + 2) (some 314) (nI (4096 - hd)) (nI i) M = fX0_putAhead_L7 fu m2 (c + 2) (some 314) (nI (4096 - hd)) (nI (i + 1)) M' ∧ ArA k A A' ∧ ArM c M M' ∧ RT rd hd (mA A' (345 + 4 * k)) (mA A' (344 + 4 * k)) (mA M' (c + 4)) (mA M' (c + 3)) := by
  have o323 := rw_ok323 hR
  have hA := rw_cnO hR k hk
  have o3 := xw_ok314 hW
  obtain ⟨c1, c2, c3, c4, c5, c6, c7, c8, c9, c10, c11, c12, c13, c14⟩ := hC
  have gea : ¬ nI dl ≤ nI i := nI_ge hi (by omega)
  have oT := rw_cnT hR k hk
  have oRo := rw_cnR hR k hk
  have lT := rw_cnTl hR k hk
  have lRo := rw_cnRl hR k hk
  have g801 := rw_cnTg hR k hk
  have g800 := rw_cnRg hR k hk
  have same : (fX16_arrived_L41 fu (m + 1) 323 (some (342 + 4 * k)) (nI (4096 - hd)) (rd + nI hd) (nI i) A = fX16_arrived_L41 fu m 323 (some (342 + 4 * k)) (nI (4096 - hd)) (rd + nI hd) (nI (i + 1)) A) → (fX0_putAhead_L7 fu (m2 + 1) (c + 2) (some 314) (nI (4096 - hd)) (nI i) M = fX0_putAhead_L7 fu m2 (c + 2) (some 314) (nI (4096 - hd)) (nI (i + 1)) M) → ∃ A' M', fX16_arrived_L41 fu (m + 1) 323 (some (342 + 4 * k)) (nI (4096 - hd)) (rd + nI hd) (nI i) A = fX16_arrived_L41 fu m 323 (some (342 + 4 * k)) (nI (4096 - hd)) (rd + nI hd) (nI (i + 1)) A' ∧ fX0_putAhead_L7 fu (m2 + 1) (c + 2) (some 314) (nI (4096 - hd)) (nI i) M = fX0_putAhead_L7 fu m2 (c + 2) (some 314) (nI (4096 - hd)) (nI (i + 1)) M' ∧ ArA k A A' ∧ ArM c M M' ∧ RT rd hd (mA A' (345 + 4 * k)) (mA A' (344 + 4 * k)) (mA M' (c + 4)) (mA M' (c + 3)) := fun e1 e2 => ⟨A, M, e1, e2, ArA.rf, ArM.rf, h⟩
  rcases inW (sq + nI i) (rd + nI hd) (w := 4096 - hd) (by omega) with ⟨j, j1, j2, j3, j4, j5⟩ | q | ⟨q1, q2, q3⟩
  · have en : sq + nI i = rd + nI (hd + j) := by rw [j2, Int32.add_assoc, nI_add]
    have hj : hd + j < 4096 := by omega
    have hs := slot_lt (rd + nI (hd + j))
    have e12 : (sq + nI i) &&& (4095 : Int32) = nI (slot (rd + nI (hd + j))) := by rw [en, and4095]
    generalize hsl : slot (rd + nI (hd + j)) = s at hs e12
    have e5 : nI s >>> ((5 : Int32) &&& 31) = nI (s / 32) := shr5 (by omega)
    have emk := msk_eq (show s < 2 ^ 31 by omega)
    have ei : sq + nI i - rd = nI (hd + j) := by rw [en]; exact add_sub_l _ _
    have hth := (h.2 (hd + j) hj).2.1 (by omega)
    rw [hsl] at hth
    have gT : gA A 102 (some (345 + 4 * k)) (nI (hd + j)) = some (mA A (345 + 4 * k) (hd + j)) := gA_ok oT (by rw [lT]; omega) (by omega)
    have gX : gA M 101 (some (c + 4)) (nI (s / 32)) = some (mA M (c + 4) (s / 32)) := gA_ok c12 (by rw [c13]; omega) (by omega)
    by_cases q : bitOf (mA M (c + 4)) s = true
    · rw [q, if_pos rfl] at hth
      refine same ?_ ?_
      · rw [fX16_arrived_L41]
        unfold fX16_arrived_L125
        rw [gI_ok o323, ob_some, a1, if_neg gea, gI_ok o323, ob_some, a2, m_before, b2_some, if10, if_neg j3, m_before, b2_some, if10, if_pos j4, gI_ok hA, ob_some, a3, ei, gR_ok hA, ob_some, g801, gT, ob_some, hth, if_neg (by decide), nI_1]
      · rw [fX0_putAhead_L7]
        unfold fX0_putAhead_L110
        rw [gI_ok o3, ob_some, x1, if_neg gea, gI_ok o3, ob_some, x2, gI_ok c7, ob_some, x3, ob_some, if_neg j3, if_neg j5, e12, e5, emk, gR_ok c7, ob_some, c9, gX, ob_some, if_neg (fun e => by
          have : bitOf (mA M (c + 4)) s = false := (bit_tst _ _).mp e
          rw [q] at this; cases this), nI_1]
    · have q0 : bitOf (mA M (c + 4)) s = false := by
        cases hh : bitOf (mA M (c + 4)) s with
        | true => exact absurd hh q
        | false => rfl
      rw [q0, if_neg (by decide)] at hth
      have pT : pA A 102 (some (345 + 4 * k)) (nI (hd + j)) ((1 : Int32) &&& 1) = some (wA A (345 + 4 * k) (fun i => if i = hd + j then 1 else mA A (345 + 4 * k) i)) := pA_ok oT (by rw [lT]; omega) (by omega)
      have pX : pA M 101 (some (c + 4)) (nI (s / 32)) (mA M (c + 4) (s / 32) ||| mskOf s) = some (wA M (c + 4) (fun i => if i = s / 32 then mA M (c + 4) (s / 32) ||| mskOf s else mA M (c + 4) i)) := pA_ok c12 (by rw [c13]; omega) (by omega)
      generalize hA1 : wA A (345 + 4 * k) (fun i => if i = hd + j then 1 else mA A (345 + 4 * k) i) = A1 at pT
      generalize hM1 : wA M (c + 4) (fun i => if i = s / 32 then mA M (c + 4) (s / 32) ||| mskOf s else mA M (c + 4) i) = M1 at pX
      have hR1 : RW A1 := by subst hA1; exact hR
      have F1 : mF A1 = mF A := by subst hA1; rfl
      have X1 : mF M1 = mF M := by subst hM1; rfl
      have G1 : mG M1 = mG M := by subst hM1; rfl
      have S1 : mS M1 = mS M := by subst hM1; rfl
      have ne4 := ok_ne x6 c12 (by decide)
      have b1 : mA M1 bd = mA M bd := by subst hM1; exact mA_wA_ne ne4
      have w1 : mA A1 338 = mA A 338 := by subst hA1; exact mA_wA_ne (by omega)
      have oA1 : okA A1 12 (342 + 4 * k) := rw_cnO hR1 k hk
      have oM1 : ∀ t a, okA M t a → okA M1 t a := fun t a ho => by unfold okA; rw [S1]; exact ho
      have h1 := x_one (M := M1) (a := bd) fu (oM1 _ _ x6) (by rw [S1]; exact x8) (i := dx + i) (by rw [S1]; omega)
      have hbb : isB (mA A 338 (da + i)) := by rw [hby]; exact hB _
      have pR1 : pA A1 100 (some (344 + 4 * k)) (nI (hd + j)) (Int8.toInt32 (Int32.toInt8 (mA A 338 (da + i)))) = some (wA A1 (344 + 4 * k) (fun i' => if i' = hd + j then mA A 338 (da + i) else mA A1 (344 + 4 * k) i')) := by
        rw [hbb]
        exact pA_ok (rw_cnR hR1 k hk) (by rw [rw_cnRl hR1 k hk]; omega) (by omega)
      have pX1 : pA M1 100 (some (c + 3)) (nI s) (mA M bd (dx + i)) = some (wA M1 (c + 3) (fun i' => if i' = s then mA M bd (dx + i) else mA M1 (c + 3) i')) := pA_ok (oM1 _ _ c10) (by rw [S1, c11]; omega) (by omega)
      have g38 : gA A1 100 (some 338) (nI (da + i)) = some (mA A 338 (da + i)) := by rw [gA_ok (rw_ok338 hR1) (by rw [rw_ln338 hR1]; omega) (by omega), w1]
      refine ⟨wA A1 (344 + 4 * k) (fun i' => if i' = hd + j then mA A 338 (da + i) else mA A1 (344 + 4 * k) i'), wA M1 (c + 3) (fun i' => if i' = s then mA M bd (dx + i) else mA M1 (c + 3) i'), ?_, ?_, ?_, ?_, ?_⟩
      · rw [fX16_arrived_L41]
        unfold fX16_arrived_L125
        rw [gI_ok o323, ob_some, a1, if_neg gea, gI_ok o323, ob_some, a2, m_before, b2_some, if10, if_neg j3, m_before, b2_some, if10, if_pos j4, gI_ok hA, ob_some, a3, ei, gR_ok hA, ob_some, g801, gT, ob_some, hth, if_pos rfl, ob_some, pT, ob_some, gR_ok oA1, ob_some, rw_cnRg hR1 k hk, gR_ok (rw_ok323 hR1), ob_some, rw_g1053_323 hR1, gI_ok (rw_ok323 hR1), ob_some, F1, a4, nI_add, g38, ob_some, pR1, ob_some, nI_1]
      · rw [fX0_putAhead_L7]
        unfold fX0_putAhead_L110
        rw [gI_ok o3, ob_some, x1, if_neg gea, gI_ok o3, ob_some, x2, gI_ok c7, ob_some, x3, ob_some, if_neg j3, if_neg j5, e12, e5, emk, gR_ok c7, ob_some, c9, gX, ob_some, if_pos ((bit_tst _ _).mpr q0), ob_some, gX, ob_some, pX, ob_some, gR_ok (oM1 _ _ c7), ob_some, G1, c8, gR_ok (oM1 _ _ o3), ob_some, G1, x5, gI_ok (oM1 _ _ o3), ob_some, X1, x4, nI_add, h1, b2_some, b1, byt_u8 _ (hB _), pX1, ob_some, nI_1]
      · subst hA1
        exact ⟨rfl, rfl, rfl, rfl, fun a h1 h2 => by rw [mA_wA_ne h1, mA_wA_ne h2]⟩
      · subst hM1
        exact ⟨rfl, rfl, rfl, rfl, fun a h1 h2 => by rw [mA_wA_ne h1, mA_wA_ne h2]⟩
      · have := RT_put h (j := hd + j) (by omega) hj (mA M bd (dx + i))
        rw [hsl] at this
        subst hA1 hM1
        rw [mA_wA_ne (show 345 + 4 * k ≠ 344 + 4 * k by omega), mA_wA_self, mA_wA_self, mA_wA_ne (show 344 + 4 * k ≠ 345 + 4 * k by omega), mA_wA_ne (show c + 4 ≠ c + 3 by omega), mA_wA_self, mA_wA_self, mA_wA_ne (show c + 3 ≠ c + 4 by omega), hby]
        exact this
  · refine same ?_ ?_
    · rw [fX16_arrived_L41]
      unfold fX16_arrived_L125
      rw [gI_ok o323, ob_some, a1, if_neg gea, gI_ok o323, ob_some, a2, m_before, b2_some, if10, if_pos q, nI_1]
    · rw [fX0_putAhead_L7]
      unfold fX0_putAhead_L110
      rw [gI_ok o3, ob_some, x1, if_neg gea, gI_ok o3, ob_some, x2, gI_ok c7, ob_some, x3, ob_some, if_pos q, nI_1]
  · refine same ?_ ?_
    · rw [fX16_arrived_L41]
      unfold fX16_arrived_L125
      rw [gI_ok o323, ob_some, a1, if_neg gea, gI_ok o323, ob_some, a2, m_before, b2_some, if10, if_neg q1, m_before, b2_some, if10, if_neg q2, nI_1]
    · rw [fX0_putAhead_L7]
      unfold fX0_putAhead_L110
      rw [gI_ok o3, ob_some, x1, if_neg gea, gI_ok o3, ob_some, x2, gI_ok c7, ob_some, x3, ob_some, if_neg q1, if_pos q3, nI_1]
end Row
