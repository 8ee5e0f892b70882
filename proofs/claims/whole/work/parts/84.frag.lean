/-! ===== part 84: fragments in the class ===== -/
theorem wA_cm {M : Mm} {a b : Nat} (hn : a ≠ b) (g k : Nat → Int32) : wA (wA M a g) b k = wA (wA M b k) a g := by
  unfold wA
  have : (fun c j => if c = b then k j else (fun c j => if c = a then g j else M.2.2.1 c j) c j) = (fun c j => if c = a then g j else (fun c j => if c = b then k j else M.2.2.1 c j) c j) := by
    funext c j
    by_cases h1 : c = a
    · have h2 : ¬ c = b := fun e => hn (h1.symm.trans e)
      simp only [h1, if_true, hn, if_false]
    · simp only [h1, if_false]
  exact congrArg (fun z => (M.1, M.2.1, z, M.2.2.2)) this
theorem rN0 {M : Mm} : rN .boolean (0 : Int32) M = some (0, M) := rN_z (Or.inl rfl)
theorem rN1 {M : Mm} : rN .boolean (1 : Int32) M = some (1, M) := rN_z (Or.inr rfl)
section Frag
variable {A M : Mm}
theorem x_fill (fu : Nat) {a L : Nat} (h : okA M 101 a) (hl : sLen (mS M) a = L) (hL : L < 2 ^ 31) (hf : L + 1 ≤ fu) (v : Int32) : fJ7_fill_53178 fu (some a) v M = some (wA M a (fun j => if j < L then v else mA M a j)) := by
  unfold fJ7_fill_53178
  rw [aL_ok h hl, ob_some]
  have step : ∀ m j, j < L → fJ7_fill_53178_L5 fu (m + 1) (some a) v (nI j) (nI L) (wA M a (fun i => if i < j then v else mA M a i)) = fJ7_fill_53178_L5 fu m (some a) v (nI (j + 1)) (nI L) (wA M a (fun i => if i < j + 1 then v else mA M a i)) := by
    intro m j hj
    rw [fJ7_fill_53178_L5, if_neg (nI_ge hj hL), pA_ok (by rw [ok_wA]; exact h) (by rw [mS_wA, hl]; exact hj) (by omega), ob_some, nI_1, wA_wA, mA_wA_self]
    congr 2
    funext i
    by_cases c : i = j
    · rw [if_pos c, if_pos (by omega)]
    · rw [if_neg c]
      by_cases c2 : i < j
      · rw [if_pos c2, if_pos (by omega)]
      · rw [if_neg c2, if_neg (by omega)]
  have e0 : wA M a (fun i => if i < 0 then v else mA M a i) = M := by
    have : (fun i => if i < 0 then v else mA M a i) = mA M a := by
      funext i
      rw [if_neg (by omega)]
    rw [this]
    exact wA_mA M a
  have lpe := lp0 (fun m j => fJ7_fill_53178_L5 fu m (some a) v (nI j) (nI L) (wA M a (fun i => if i < j then v else mA M a i))) step (fu := fu) (by omega)
  simp only [e0] at lpe
  refine Eq.trans lpe ?_
  obtain ⟨m, hm⟩ : ∃ m, fu - L = m + 1 := ⟨fu - L - 1, by omega⟩
  rw [hm, fJ7_fill_53178_L5, if_pos (Int32.le_refl _)]
theorem x_dropDatagram (hW : XW M) {n d fu : Nat} (hw : (mF M 208 314) = nI n) (hn : n ≤ 4) (hd : d < n) (hq : ∀ j, j < n → ∃ q, mB M 316 j = some q ∧ okA M 2 q) (hf : 5 ≤ fu) :
    fX3_dropDatagram fu 314 (nI d) M = some (sF (wB M 316 (rotg (mB M 316) d n)) 208 314 (nI (n - 1))) := by
  obtain ⟨q, hqd, hOd⟩ := hq d hd
  unfold fX3_dropDatagram
  rw [if_neg (nI_pos (by omega)), gI_ok (xw_ok314 hW), ob_some, hw, if_pos (nI_lt hd (by omega)), gR_ok (xw_ok314 hW), ob_some, xw_g207_314 hW, gB_ok (xw_ok316 hW) (by rw [xw_ln316 hW]; omega) (by omega), ob_some, hqd]
  have hWB : ∀ g, XW (wB M 316 g) := fun g => by
    have := hW
    unfold XW okA at this ⊢
    exact this
  have step : ∀ m j, d ≤ j → j < n - 1 → fX3_dropDatagram_L22 fu (m + 1) 314 (some q) (nI j) (wB M 316 (shg (mB M 316) d j)) = fX3_dropDatagram_L22 fu m 314 (some q) (nI (j + 1)) (wB M 316 (shg (mB M 316) d (j + 1))) := by
    intro m j h1 h2
    obtain ⟨p, hp, hO⟩ := hq (j + 1) (by omega)
    have hg : mB (wB M 316 (shg (mB M 316) d j)) 316 (j + 1) = some p := by
      rw [mB_wB_self]
      unfold shg
      rw [if_neg (by omega)]
      exact hp
    rw [fX3_dropDatagram_L22, gI_ok (xw_ok314 (hWB _)), ob_some, mF_wB, hw, nI_1, if_neg (nI_ge (by omega) (by omega)), if_neg (ge4 (by omega)), gR_ok (xw_ok314 (hWB _)), ob_some, xw_g207_314 (hWB _), ob_some, gB_ok (xw_ok316 (hWB _)) (by rw [xw_ln316 (hWB _)]; omega) (by omega), ob_some, hg, pB_ok (t := 112) rfl (xw_ok316 (hWB _)) (by rw [xw_ln316 (hWB _)]; omega) (by omega) (by rw [ok_wB]; exact hO), ob_some, sB_wB, ← hp, shg_1 _ h1]
  have lpe := lp (fun m j => fX3_dropDatagram_L22 fu m 314 (some q) (nI j) (wB M 316 (shg (mB M 316) d j))) (i := d) (k := n - 1) (by omega) step (fu - (n - 1 - d))
  simp only [shg_0, wB_mB] at lpe
  rw [show fu - (n - 1 - d) + (n - 1 - d) = fu by omega] at lpe
  rw [lpe]
  obtain ⟨m, hm⟩ : ∃ m, fu - (n - 1 - d) = m + 1 := ⟨fu - (n - 1 - d) - 1, by omega⟩
  rw [hm, fX3_dropDatagram_L22, gI_ok (xw_ok314 (hWB _)), ob_some, mF_wB, hw, nI_1, show n - 1 + 1 = n by omega, if_pos (Int32.le_refl _)]
  unfold fX3_dropDatagram_L59
  have e1 : nI n - (1 : Int32) = nI (n - 1) := nI_sub (x := n) (y := 1) (by omega)
  rw [gI_ok (xw_ok314 (hWB _)), ob_some, mF_wB, hw, e1, pF_ok (xw_ok314 (hWB _)), ob_some]
  have hW2 : XW (sF (wB M 316 (shg (mB M 316) d (n - 1))) 208 314 (nI (n - 1))) := hWB _
  have hwn : mF (sF (wB M 316 (shg (mB M 316) d (n - 1))) 208 314 (nI (n - 1))) 208 314 = nI (n - 1) := by simp only [mF_sF, reduceIte, Nat.reduceEqDiff, Nat.reduceAdd, Nat.reduceMul, Nat.reduceLT, Nat.reduceLeDiff, and_true, true_and, and_false, false_and, and_self, ne_eq, not_true_eq_false, not_false_eq_true, Option.some.injEq, reduceCtorEq]
  rw [gR_ok (xw_ok314 hW2), ob_some, xw_g207_314 hW2, gI_ok (xw_ok314 hW2), ob_some, hwn, pB_ok (t := 112) rfl (xw_ok316 hW2) (by rw [xw_ln316 hW2]; omega) (by omega) (by rw [ok_sF, ok_wB]; exact hOd), ob_some, ← shg_e (mB M 316) hd, ← hqd, ← sB_wB]
  rfl
def setb (g : Nat → Int32) (k : Nat) : Nat → Int32 := fun j => if j = k / 32 then g (k / 32) ||| mskOf k else g j
def tg (g : Nat → Int32) (o : Nat) : Nat → (Nat → Int32)
  | 0 => g
  | i + 1 => if bitOf (tg g o i) (o + i) then tg g o i else setb (tg g o i) (o + i)
theorem tg_bit (g : Nat → Int32) (o : Nat) : ∀ i j, bitOf (tg g o i) j = (decide (o ≤ j ∧ j < o + i) || bitOf g j)
  | 0, j => by
    have : ¬ (o ≤ j ∧ j < o + 0) := by omega
    simp only [tg, this, decide_false, Bool.false_or]
  | i + 1, j => by
    unfold tg
    by_cases c : bitOf (tg g o i) (o + i) = true
    · rw [if_pos c, tg_bit g o i j]
      by_cases d : j = o + i
      · rw [tg_bit] at c
        have e1 : ¬ (o ≤ o + i ∧ o + i < o + i) := by omega
        have e2 : (o ≤ o + i ∧ o + i < o + (i + 1)) := by omega
        subst d
        simp only [e1, e2, decide_false, decide_true, Bool.false_or, Bool.true_or] at c ⊢
        exact c
      · have : (o ≤ j ∧ j < o + i) ↔ (o ≤ j ∧ j < o + (i + 1)) := by omega
        rw [decide_eq_decide.mpr this]
    · rw [if_neg c]
      unfold setb
      rw [bitOf_set, tg_bit g o i j]
      by_cases d : j = o + i
      · have e2 : (o ≤ j ∧ j < o + (i + 1)) := by omega
        simp [d]
      · have : (o ≤ j ∧ j < o + i) = (o ≤ j ∧ j < o + (i + 1)) := propext (by omega)
        simp only [this, d, decide_false, Bool.false_or]
theorem byt_u8 (v : Int32) (h : isB v) : Int8.toInt32 (Int32.toInt8 (Int8.toInt32 (Int32.toInt8 (u8 v)))) = v := by
  rw [byt2]
  have : byt (u8 v) = byt v := byt_bits (fun i hi => by
    unfold u8
    rw [b_and, b_255]
    simp [hi])
  rw [this]
  exact h
/-- the bytes of a fragment that are new -/
def bg (g : Nat → Int32) (b s : Nat → Int32) (o pl i : Nat) : Nat → Int32 := fun j => if o ≤ j ∧ j < o + i ∧ bitOf g j = false then s (pl + (j - o)) else b j
/-- the class's datagram after i bytes of a fragment -/
def dgI (M : Mm) (d src o pl i : Nat) : Mm := sF (wA (wA M (d + 2) (tg (mA M (d + 2)) o i)) (d + 1) (bg (mA M (d + 2)) (mA M (d + 1)) (mA M src) o pl i)) 134 d (nI (cnt (bitOf (tg (mA M (d + 2)) o i)) 4096))
theorem x_dgput (fu : Nat) {d src o pl sz r : Nat} (hB : By M) (hd : okA M 2 d) (g1 : (mG M 128 d) = some (d + 1)) (g2 : (mG M 136 d) = some (d + 2)) (h1 : okA M 100 (d + 1)) (l1 : sLen (mS M) (d + 1) = 4096) (h2' : okA M 101 (d + 2)) (l2 : sLen (mS M) (d + 2) = 128) (hs : okA M 100 src) (hsl : sLen (mS M) src < 2 ^ 30) (hps : pl + sz ≤ sLen (mS M) src) (ho : o + sz ≤ 4096) (hn1 : src ≠ d + 1)
    (hhave : (mF M 134 d) = nI (cnt (bitOf (mA M (d + 2))) 4096)) (hreach : (mF M 135 d) = nI r) (hr : r ≤ 4096) (hf : sz + 1 ≤ fu) :
    fX2_put fu d (some src) (nI pl) (nI o) (nI sz) M = some (sF (dgI M d src o pl sz) 135 d (nI (max r (o + sz)))) := by
  unfold fX2_put
  have hn2 : src ≠ d + 2 := by
    rintro rfl
    exact absurd (hs.2.2.symm.trans h2'.2.2) (by decide)
  have step : ∀ m i, i < sz → fX2_put_L3 fu (m + 1) d (some src) (nI pl) (nI o) (nI sz) (nI i) (dgI M d src o pl i) = fX2_put_L3 fu m d (some src) (nI pl) (nI o) (nI sz) (nI (i + 1)) (dgI M d src o pl (i + 1)) := by
    intro m i hi
    have hoi : (nI o : Int32) + nI i = nI (o + i) := nI_add o i
    have hpi : (nI pl : Int32) + nI i = nI (pl + i) := nI_add pl i
    have o31 : o + i < 2 ^ 31 := by omega
    have rT : mA (dgI M d src o pl i) (d + 2) = tg (mA M (d + 2)) o i := by
      unfold dgI
      rw [mA_sF, mA_wA_ne (by omega), mA_wA_self]
    have rB : mA (dgI M d src o pl i) (d + 1) = bg (mA M (d + 2)) (mA M (d + 1)) (mA M src) o pl i := by
      unfold dgI
      rw [mA_sF, mA_wA_self]
    have rS : mA (dgI M d src o pl i) src = mA M src := by
      unfold dgI
      rw [mA_sF, mA_wA_ne hn1, mA_wA_ne hn2]
    have rH : mF (dgI M d src o pl i) 134 d = nI (cnt (bitOf (tg (mA M (d + 2)) o i)) 4096) := by
      unfold dgI
      rw [mF_sF, if_pos ⟨rfl, rfl⟩]
    have hd' : okA (dgI M d src o pl i) 2 d := hd
    have h1' : okA (dgI M d src o pl i) 100 (d + 1) := h1
    have h2'' : okA (dgI M d src o pl i) 101 (d + 2) := h2'
    have g1' : mG (dgI M d src o pl i) 128 d = some (d + 1) := g1
    have g2' : mG (dgI M d src o pl i) 136 d = some (d + 2) := g2
    rw [fX2_put_L3, if_neg (nI_ge hi (by omega)), hoi, if_neg (ge4096 (by omega)), msk_eq o31, ob_some, if_neg (nI_pos o31), gR_ok hd', ob_some, g2', shr5 o31, gA_ok h2'' (by show (o + i) / 32 < sLen (mS M) (d + 2); omega) (by omega), ob_some, rT]
    unfold fX2_put_L95
    by_cases c : bitOf (tg (mA M (d + 2)) o i) (o + i) = true
    · have c' : ¬ (tg (mA M (d + 2)) o i ((o + i) / 32) &&& mskOf (o + i)) = 0 := fun e => by
        rw [bit_tst] at e
        unfold bitOf at c
        rw [e] at c
        cases c
      have e1 : tg (mA M (d + 2)) o (i + 1) = tg (mA M (d + 2)) o i := if_pos c
      have e2 : bg (mA M (d + 2)) (mA M (d + 1)) (mA M src) o pl (i + 1) = bg (mA M (d + 2)) (mA M (d + 1)) (mA M src) o pl i := by
        funext j
        unfold bg
        rw [tg_bit] at c
        have e3 : ¬ (o ≤ o + i ∧ o + i < o + i) := by omega
        simp only [e3, decide_false, Bool.false_or] at c
        by_cases d1 : j = o + i
        · subst d1
          rw [if_neg (by rw [c]; simp), if_neg (by omega)]
        · by_cases d2 : o ≤ j ∧ j < o + i ∧ bitOf (mA M (d + 2)) j = false
          · rw [if_pos d2, if_pos ⟨d2.1, by omega, d2.2.2⟩]
          · rw [if_neg d2, if_neg (fun q => d2 ⟨q.1, by omega, q.2.2⟩)]
      have e4 : dgI M d src o pl (i + 1) = dgI M d src o pl i := by
        unfold dgI
        rw [e1, e2]
      rw [if_neg c', nI_1, e4]
    · have c' : (tg (mA M (d + 2)) o i ((o + i) / 32) &&& mskOf (o + i)) = 0 := by
        rw [bit_tst]
        exact Bool.eq_false_iff.mpr c
      have cg : bitOf (mA M (d + 2)) (o + i) = false := by
        rw [tg_bit] at c
        have e3 : ¬ (o ≤ o + i ∧ o + i < o + i) := by omega
        simp only [e3, decide_false, Bool.false_or] at c
        exact Bool.eq_false_iff.mpr c
      have e1 : tg (mA M (d + 2)) o (i + 1) = setb (tg (mA M (d + 2)) o i) (o + i) := if_neg c
      have e5 : cnt (bitOf (setb (tg (mA M (d + 2)) o i) (o + i))) 4096 = cnt (bitOf (tg (mA M (d + 2)) o i)) 4096 + 1 := by
        have e6 : bitOf (setb (tg (mA M (d + 2)) o i) (o + i)) = fun j => decide (j = o + i) || bitOf (tg (mA M (d + 2)) o i) j := by
          funext j
          exact bitOf_set _ _ _
        rw [e6, cnt_set (Bool.eq_false_iff.mpr c), if_pos (by omega)]
      rw [if_pos c', ob_some, gA_ok h2'' (by show (o + i) / 32 < sLen (mS M) (d + 2); omega) (by omega), ob_some, pA_ok h2'' (by show (o + i) / 32 < sLen (mS M) (d + 2); omega) (by omega), ob_some, rT]
      have one1 : fX11_one fu (some src) (nI pl + nI i) (wA (dgI M d src o pl i) (d + 2) (fun j => if j = (o + i) / 32 then tg (mA M (d + 2)) o i ((o + i) / 32) ||| mskOf (o + i) else tg (mA M (d + 2)) o i j)) = some (u8 (mA M src (pl + i)), wA (dgI M d src o pl i) (d + 2) (fun j => if j = (o + i) / 32 then tg (mA M (d + 2)) o i ((o + i) / 32) ||| mskOf (o + i) else tg (mA M (d + 2)) o i j)) := by
        rw [hpi]
        have := x_one (M := wA (dgI M d src o pl i) (d + 2) (fun j => if j = (o + i) / 32 then tg (mA M (d + 2)) o i ((o + i) / 32) ||| mskOf (o + i) else tg (mA M (d + 2)) o i j)) fu (a := src) hs hsl (i := pl + i) (by show pl + i < sLen (mS M) src; omega)
        rw [mA_wA_ne hn2, rS] at this
        exact this
      rw [gR_ok (by rw [ok_wA]; exact hd'), ob_some, mG_wA, g1', one1, b2_some, byt_u8 _ (hB _ _ hs.2.2), pA_ok (by rw [ok_wA]; exact h1') (by show o + i < sLen (mS M) (d + 1); omega) (by omega), ob_some, gI_ok (by rw [ok_wA, ok_wA]; exact hd'), ob_some, mF_wA, mF_wA, rH, nI_1, pF_ok (by rw [ok_wA, ok_wA]; exact hd'), ob_some, nI_1, mA_wA_ne (by omega), rB]
      refine congrArg (fun z => fX2_put_L3 fu m d (some src) (nI pl) (nI o) (nI sz) (nI (i + 1)) z) ?_
      unfold dgI
      rw [e1, e5]
      have e7 : (fun j => if j = o + i then mA M src (pl + i) else bg (mA M (d + 2)) (mA M (d + 1)) (mA M src) o pl i j) = bg (mA M (d + 2)) (mA M (d + 1)) (mA M src) o pl (i + 1) := by
        funext j
        unfold bg
        by_cases d1 : j = o + i
        · subst d1
          rw [if_pos rfl, if_pos ⟨by omega, by omega, cg⟩, show o + i - o = i by omega]
        · rw [if_neg d1]
          by_cases d2 : o ≤ j ∧ j < o + i ∧ bitOf (mA M (d + 2)) j = false
          · rw [if_pos d2, if_pos ⟨d2.1, by omega, d2.2.2⟩]
          · rw [if_neg d2, if_neg (fun q => d2 ⟨q.1, by omega, q.2.2⟩)]
      rw [e7]
      show sF (wA (wA (sF (wA (wA M (d + 2) _) (d + 1) _) 134 d _) (d + 2) (setb (tg (mA M (d + 2)) o i) (o + i))) (d + 1) _) 134 d _ = _
      rw [← sF_wA, ← sF_wA, wA_cm (show d + 2 ≠ d + 1 by omega), wA_wA, wA_cm (show d + 1 ≠ d + 2 by omega), wA_wA, sF_sF]
  have e0 : dgI M d src o pl 0 = M := by
    unfold dgI
    have : bg (mA M (d + 2)) (mA M (d + 1)) (mA M src) o pl 0 = mA M (d + 1) := by
      funext j
      unfold bg
      rw [if_neg (by omega)]
    rw [this]
    show sF (wA (wA M (d + 2) (mA M (d + 2))) (d + 1) (mA M (d + 1))) 134 d (nI (cnt (bitOf (mA M (d + 2))) 4096)) = M
    rw [wA_mA, wA_mA, sF_id hhave]
  have lpe := lp0 (fun m i => fX2_put_L3 fu m d (some src) (nI pl) (nI o) (nI sz) (nI i) (dgI M d src o pl i)) step (fu := fu) (by omega)
  simp only [e0] at lpe
  refine Eq.trans lpe ?_
  obtain ⟨m, hm⟩ : ∃ m, fu - sz = m + 1 := ⟨fu - sz - 1, by omega⟩
  have hre : mF (dgI M d src o pl sz) 135 d = nI r := by
    unfold dgI
    rw [mF_sF, if_neg (by omega)]
    exact hreach
  rw [hm, fX2_put_L3, if_pos (Int32.le_refl _)]
  unfold fX2_put_L101
  have hdS : okA (dgI M d src o pl sz) 2 d := hd
  rw [gI_ok hdS, ob_some, hre, nI_add, jmax_nI (by omega) (by omega), pF_ok hdS, ob_some]
end Frag
