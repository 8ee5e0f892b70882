/-! ===== part 98m: the path, in both ===== -/
def hxI (c : Nat) : Int32 := if 48 ≤ c ∧ c ≤ 57 then nI (c - 48) else if 97 ≤ c ∧ c ≤ 102 then nI (c - 87) else if 65 ≤ c ∧ c ≤ 70 then nI (c - 55) else -1
theorem hxI_or (c : Nat) : hxI c = -1 ∨ ∃ x, x < 16 ∧ hxI c = nI x := by
  unfold hxI
  by_cases q1 : 48 ≤ c ∧ c ≤ 57
  · rw [if_pos q1]; exact Or.inr ⟨_, by omega, rfl⟩
  · rw [if_neg q1]
    by_cases q2 : 97 ≤ c ∧ c ≤ 102
    · rw [if_pos q2]; exact Or.inr ⟨_, by omega, rfl⟩
    · rw [if_neg q2]
      by_cases q3 : 65 ≤ c ∧ c ≤ 70
      · rw [if_pos q3]; exact Or.inr ⟨_, by omega, rfl⟩
      · rw [if_neg q3]; exact Or.inl rfl
theorem m_hex (fu : Nat) {c : Nat} (hc : c < 256) (A : Mm) : fX16_hexadecimal fu (nI c) A = some (hxI c, A) := by
  have hs := smN_lt hc
  unfold fX16_hexadecimal hxI
  rw [m_digit fu hc, b2_some, if10]
  by_cases q1 : 48 ≤ c ∧ c ≤ 57
  · rw [if_pos q1, if_pos q1, show nI c - (48 : Int32) = nI (c - 48) from nI_sub (y := 48) q1.1]
  · rw [if_neg q1, if_neg q1, m_small fu hc, b2_some]
    by_cases q2 : smN c < 97
    · rw [if_pos (show nI (smN c) < (97 : Int32) from nI_lt (b := 97) q2 (by decide))]
      have : ¬ (97 ≤ c ∧ c ≤ 102) ∧ ¬ (65 ≤ c ∧ c ≤ 70) := by unfold smN at q2; split at q2 <;> omega
      rw [if_neg this.1, if_neg this.2]
    · rw [if_neg (show ¬ nI (smN c) < (97 : Int32) from nI_nlt (b := 97) (by omega) (by omega)), m_small fu hc, b2_some]
      by_cases q3 : 102 < smN c
      · rw [if_pos (show (102 : Int32) < nI (smN c) from nI_lt (a := 102) q3 (by omega))]
        have : ¬ (97 ≤ c ∧ c ≤ 102) ∧ ¬ (65 ≤ c ∧ c ≤ 70) := by unfold smN at q3; split at q3 <;> omega
        rw [if_neg this.1, if_neg this.2]
      · rw [if_neg (show ¬ (102 : Int32) < nI (smN c) from nI_nlt (a := 102) (by omega) (by omega)), m_small fu hc, b2_some, show nI (smN c) - (97 : Int32) = nI (smN c - 97) from nI_sub (y := 97) (by omega), show nI (smN c - 97) + (10 : Int32) = nI (smN c - 97 + 10) from nI_add _ 10]
        by_cases q4 : 97 ≤ c ∧ c ≤ 102
        · rw [if_pos q4, show smN c - 97 + 10 = c - 87 by unfold smN; split <;> omega]
        · have q5 : 65 ≤ c ∧ c ≤ 70 := by
            unfold smN at q2 q3
            by_cases z : 65 ≤ c ∧ c ≤ 90
            · rw [if_pos z] at q2 q3; omega
            · rw [if_neg z] at q2 q3; omega
          rw [if_neg q4, if_pos q5, show smN c - 97 + 10 = c - 55 by unfold smN; split <;> omega]
theorem x_hex (fu : Nat) {c : Nat} (hc : c < 256) (M : Mm) : fX7_hexDigit fu (nI c) M = some (hxI c, M) := by
  have A37 : ¬ (48 ≤ c ∧ c ≤ 57) → ¬ (97 ≤ c ∧ c ≤ 102) → fX7_hexDigit_L37 fu (nI c) M = some (hxI c, M) := fun q1 q2 => by
    unfold fX7_hexDigit_L37 hxI
    rw [if_neg q1, if_neg q2]
    by_cases q3 : c < 65
    · rw [if_pos (show nI c < (65 : Int32) from nI_lt (b := 65) q3 (by decide)), if_neg (by omega)]
    · rw [if_neg (show ¬ nI c < (65 : Int32) from nI_nlt (b := 65) (by omega) (by omega))]
      by_cases q4 : 70 < c
      · rw [if_pos (show (70 : Int32) < nI c from nI_lt (a := 70) q4 (by omega)), if_neg (by omega)]
      · rw [if_neg (show ¬ (70 : Int32) < nI c from nI_nlt (a := 70) (by omega) (by omega)), if_pos (by omega), show nI c - (65 : Int32) = nI (c - 65) from nI_sub (y := 65) (by omega), show nI (c - 65) + (10 : Int32) = nI (c - 65 + 10) from nI_add _ 10, show c - 65 + 10 = c - 55 by omega]
  have A17 : ¬ (48 ≤ c ∧ c ≤ 57) → fX7_hexDigit_L17 fu (nI c) M = some (hxI c, M) := fun q1 => by
    unfold fX7_hexDigit_L17
    by_cases q3 : c < 97
    · rw [if_pos (show nI c < (97 : Int32) from nI_lt (b := 97) q3 (by decide)), A37 q1 (by omega)]
    · rw [if_neg (show ¬ nI c < (97 : Int32) from nI_nlt (b := 97) (by omega) (by omega))]
      by_cases q4 : 102 < c
      · rw [if_pos (show (102 : Int32) < nI c from nI_lt (a := 102) q4 (by omega)), A37 q1 (by omega)]
      · unfold hxI
        rw [if_neg (show ¬ (102 : Int32) < nI c from nI_nlt (a := 102) (by omega) (by omega)), if_neg q1, if_pos (by omega), show nI c - (97 : Int32) = nI (c - 97) from nI_sub (y := 97) (by omega), show nI (c - 97) + (10 : Int32) = nI (c - 97 + 10) from nI_add _ 10, show c - 97 + 10 = c - 87 by omega]
  unfold fX7_hexDigit
  by_cases q3 : c < 48
  · rw [if_pos (show nI c < (48 : Int32) from nI_lt (b := 48) q3 (by decide)), A17 (by omega)]
  · rw [if_neg (show ¬ nI c < (48 : Int32) from nI_nlt (b := 48) (by omega) (by omega))]
    by_cases q4 : 57 < c
    · rw [if_pos (show (57 : Int32) < nI c from nI_lt (a := 57) q4 (by omega)), A17 (by omega)]
    · unfold hxI
      rw [if_neg (show ¬ (57 : Int32) < nI c from nI_nlt (a := 57) (by omega) (by omega)), if_pos (by omega), show nI c - (48 : Int32) = nI (c - 48) from nI_sub (y := 48) (by omega)]
/-- the path's notes alone are other -/
def GA (A A' : Mm) : Prop := mS A' = mS A ∧ mG A' = mG A ∧ mB A' = mB A ∧ (∀ f a, ¬ (f = 1083 ∧ a = 323) → mF A' f a = mF A f a) ∧ (∀ a, a ≠ 341 → mA A' a = mA A a)
def GM (M M' : Mm) : Prop := mS M' = mS M ∧ mG M' = mG M ∧ mB M' = mB M ∧ (∀ f a, ¬ (f = 452 ∧ a = 319) → mF M' f a = mF M f a) ∧ (∀ a, a ≠ 321 → mA M' a = mA M a)
theorem GA.rf {A : Mm} : GA A A := ⟨rfl, rfl, rfl, fun _ _ _ => rfl, fun _ _ => rfl⟩
theorem GM.rf {M : Mm} : GM M M := ⟨rfl, rfl, rfl, fun _ _ _ => rfl, fun _ _ => rfl⟩
theorem GA.tr {A A' A'' : Mm} (h : GA A A') (g : GA A' A'') : GA A A'' := ⟨g.1.trans h.1, g.2.1.trans h.2.1, g.2.2.1.trans h.2.2.1, fun f a n => (g.2.2.2.1 f a n).trans (h.2.2.2.1 f a n), fun a n => (g.2.2.2.2 a n).trans (h.2.2.2.2 a n)⟩
theorem GM.tr {A A' A'' : Mm} (h : GM A A') (g : GM A' A'') : GM A A'' := ⟨g.1.trans h.1, g.2.1.trans h.2.1, g.2.2.1.trans h.2.2.1, fun f a n => (g.2.2.2.1 f a n).trans (h.2.2.2.1 f a n), fun a n => (g.2.2.2.2 a n).trans (h.2.2.2.2 a n)⟩
theorem GA.s {A : Mm} (v : Int32) : GA A (sF A 1083 323 v) := ⟨rfl, rfl, rfl, fun f a n => by rw [mF_sF, if_neg n], fun _ _ => rfl⟩
theorem GM.s {A : Mm} (v : Int32) : GM A (sF A 452 319 v) := ⟨rfl, rfl, rfl, fun f a n => by rw [mF_sF, if_neg n], fun _ _ => rfl⟩
theorem GA.w {A : Mm} (g : Nat → Int32) : GA A (wA A 341 g) := ⟨rfl, rfl, rfl, fun _ _ _ => rfl, fun a n => by
  funext j
  show (if a = 341 then g j else mA A a j) = _
  rw [if_neg n]⟩
theorem GM.w {A : Mm} (g : Nat → Int32) : GM A (wA A 321 g) := ⟨rfl, rfl, rfl, fun _ _ _ => rfl, fun a n => by
  funext j
  show (if a = 321 then g j else mA A a j) = _
  rw [if_neg n]⟩
theorem GA.fq {A A' : Mm} (h : GA A A') : FQA A A' := ⟨h.1, h.2.1, h.2.2.1, fun f a n => h.2.2.2.1 f a (fun e => n ⟨by omega, e.2⟩), fun a n1 n2 => h.2.2.2.2 a n2⟩
theorem GM.fq {A A' : Mm} (h : GM A A') : FQM A A' := ⟨h.1, h.2.1, h.2.2.1, fun f a n => h.2.2.2.1 f a (fun e => n ⟨by omega, by omega, e.2⟩), fun a n1 n2 => h.2.2.2.2 a n2⟩
theorem HD.gg {A M A' M' : Mm} {H : Nat → Nat} {n : Nat} (h : HD H n A M) (fA : GA A A') (fM : GM M M') : HD H n A' M' := by
  unfold HD
  rw [fA.2.2.2.2 340 (by decide), fM.2.2.2.2 320 (by decide)]
  exact h
/-- what is read of a path, in both -/
def PT (A M : Mm) (La L : Nat) (P : Nat → Nat) : Prop := (mF A 1083 323) = nI La ∧ (mF M 452 319) = nI (min L 48) ∧ (∀ j, j < L → 0 < P j ∧ P j < 128 ∧ mA A 341 j = nI (P j)) ∧ (∀ j, j < L → j < 48 → mA M 321 j = nI (P j))
theorem isB_nI {v : Nat} (h : v < 128) : isB (nI v) := by
  unfold isB
  exact sml h
section Path
variable {A M : Mm} {H : Nat → Nat} {n b : Nat}
theorem x_add (fu : Nat) (hW : XW M) (hB : By M) {L v : Nat} {P : Nat → Nat} (hv : v < 128) (hL : (mF M 452 319) = nI (min L 48)) (hP : ∀ j, j < L → j < 48 → mA M 321 j = nI (P j)) : ∃ M', fX7_addToPath fu 319 (nI v) M = some M' ∧ GM M M' ∧ By M' ∧ (mF M' 452 319) = nI (min (L + 1) 48) ∧ (∀ j, j < L + 1 → j < 48 → mA M' 321 j = nI (if j = L then v else P j)) := by
  have o7 := xw_ok319 hW
  have o1 := xw_ok321 hW
  have ln := xw_ln321 hW
  unfold fX7_addToPath
  rw [gI_ok o7, ob_some, hL, gR_ok o7, ob_some, xw_g451_319 hW, aL_ok o1 ln, ob_some]
  by_cases q : 48 ≤ L
  · rw [if_pos (nI_le (by omega) (by omega))]
    refine ⟨M, rfl, GM.rf, hB, by rw [hL, Nat.min_eq_right q, Nat.min_eq_right (by omega)], fun j h1 h2 => ?_⟩
    rw [if_neg (by omega)]
    exact hP j (by omega) h2
  · have e1 : min L 48 = L := Nat.min_eq_left (by omega)
    have e2 : min (L + 1) 48 = L + 1 := Nat.min_eq_left (by omega)
    rw [e1] at hL ⊢
    rw [if_neg (nI_ge (by omega) (by decide)), sml hv, sml hv, ob_some, ob_some, pA_ok o1 (by rw [ln]; omega) (by omega), ob_some, gI_ok (by exact o7), ob_some, show mF (wA M 321 (fun j => if j = L then nI v else mA M 321 j)) 452 319 = nI L from hL, nI_1, pF_ok (by exact o7), ob_some]
    refine ⟨_, rfl, (GM.w _).tr (GM.s _), By_sF (By_wA hB (fun ht j => ?_)), ?_, fun j h1 h2 => ?_⟩
    · show isB (if j = L then nI v else mA M 321 j)
      split
      · exact isB_nI hv
      · exact hB 321 j ht
    · rw [mF_sF, if_pos ⟨rfl, rfl⟩, e2]
    · show (if (321 : Nat) = 321 then (if j = L then nI v else mA M 321 j) else mA M 321 j) = _
      rw [if_pos rfl]
      by_cases z : j = L
      · rw [if_pos z, if_pos z]
      · rw [if_neg z, if_neg z]
        exact hP j (by omega) h2
theorem m_put (hR : RW A) (hB : By A) {L v : Nat} {P : Nat → Nat} (hv : v < 128) (h0 : 0 < v) (hL : L < 8192) (hP : ∀ j, j < L → 0 < P j ∧ P j < 128 ∧ mA A 341 j = nI (P j)) : ∃ A', pA A 100 (some 341) (nI L) (Int8.toInt32 (Int32.toInt8 (Int8.toInt32 (Int32.toInt8 (nI v))))) = some A' ∧ GA A A' ∧ By A' ∧ mF A' = mF A ∧ (∀ j, j < L + 1 → 0 < (if j = L then v else P j) ∧ (if j = L then v else P j) < 128 ∧ mA A' 341 j = nI (if j = L then v else P j)) := by
  have o1 := rw_ok341 hR
  rw [sml hv, sml hv, pA_ok o1 (by rw [rw_ln341 hR]; omega) (by omega)]
  refine ⟨_, rfl, GA.w _, By_wA hB (fun ht j => ?_), rfl, fun j h1 => ?_⟩
  · show isB (if j = L then nI v else mA A 341 j)
    split
    · exact isB_nI hv
    · exact hB 341 j ht
  · have e : mA (wA A 341 (fun j => if j = L then nI v else mA A 341 j)) 341 j = (if j = L then nI v else mA A 341 j) := by
      show (if (341 : Nat) = 341 then (if j = L then nI v else mA A 341 j) else mA A 341 j) = _
      rw [if_pos rfl]
    rw [e]
    by_cases z : j = L
    · rw [if_pos z, if_pos z]
      exact ⟨h0, hv, rfl⟩
    · rw [if_neg z, if_neg z]
      exact hP j (by omega)
/-- one code more, in both -/
theorem sp_add (fu : Nat) (hR : RW A) (hB : By A) (hW : XW M) (hBM : By M) {L v : Nat} {P : Nat → Nat} (hp : PT A M L L P) (hv : v < 128) (h0 : 0 < v) (hL : L < 8192) (k : Nat → Int32 → Mm → Option (Int32 × Mm)) (a1 : Int32) :
    ∃ A' M', fX16_unfolded_L128 fu k 323 a1 (nI v) A = k 323 a1 A' ∧ fX7_addToPath fu 319 (nI v) M = some M' ∧ GA A A' ∧ GM M M' ∧ By A' ∧ By M' ∧ PT A' M' (L + 1) (L + 1) (fun j => if j = L then v else P j) := by
  have o := rw_ok323 hR
  obtain ⟨M', x1, x2, x3, x4, x5⟩ := x_add fu hW hBM hv hp.2.1 hp.2.2.2
  obtain ⟨A1, y1, y2, y3, y4, y5⟩ := m_put hR hB hv h0 hL hp.2.2.1
  have o' : okA A1 16 323 := by unfold okA; rw [y2.1]; exact o
  refine ⟨sF A1 1083 323 (nI (L + 1)), M', ?_, x1, y2.tr (GA.s _), x2, By_sF y3, x3, ?_, x4, fun j hj => y5 j hj, x5⟩
  · unfold fX16_unfolded_L128
    rw [gR_ok o, ob_some, rw_g1082_323 hR, gI_ok o, ob_some, hp.1, y1, ob_some, gI_ok o', ob_some, y4, hp.1, nI_1, pF_ok o', ob_some]
  · rw [mF_sF, if_pos ⟨rfl, rfl⟩]
/-- the name behind a stroke, in both -/
theorem sp_index (fu : Nat) : ∀ (d i L : Nat) (P : Nat → Nat) (A M : Mm) (m m2 : Nat), i + d = 10 → d ≤ m → d ≤ m2 → RW A → By A → XW M → By M → PT A M L (L + i) P → L ≤ 5000 →
    ∃ A' M' P', fX16_unfolded_L174 fu (m + 1) 323 (some 12) (nI i) A = some (1, A') ∧ fX7_readPath_L160 fu (m2 + 1) 319 (some 12) (nI i) M = some (1, M') ∧ GA A A' ∧ GM M M' ∧ By A' ∧ By M' ∧ PT A' M' (L + 10) (L + 10) P' ∧ (∀ j, j < L → P' j = P j) := by
  have t12 : txL 12 = 10 := by decide +kernel
  intro d
  induction d with
  | zero =>
    intro i L P A M m m2 d1 d2 d3 hR hB hW hBM hp hL
    have e : i = 10 := by omega
    subst e
    have o := rw_ok323 hR
    refine ⟨sF A 1083 323 (nI (L + 10)), M, P, ?_, ?_, GA.s _, GM.rf, By_sF hB, hBM, ⟨?_, hp.2.1, hp.2.2.1, hp.2.2.2⟩, fun _ _ => rfl⟩
    · rw [fX16_unfolded_L174, x_rcS (by decide), ob_some, x_len fu (by decide), b2_some, t12, if_pos (nI_le (Nat.le_refl _) (by decide)), gI_ok o, ob_some, hp.1, ob_some, x_len fu (by decide), b2_some, t12, nI_add, pF_ok o, ob_some, rN1]
    · rw [fX7_readPath_L160, x_rcS (by decide), ob_some, x_len fu (by decide), b2_some, t12, if_pos (nI_le (Nat.le_refl _) (by decide)), rN1]
    · rw [mF_sF, if_pos ⟨rfl, rfl⟩]
  | succ d ih =>
    intro i L P A M m m2 d1 d2 d3 hR hB hW hBM hp hL
    have o := rw_ok323 hR
    obtain ⟨hc1, hc2, hc3⟩ := (tx_ok 12 (by decide)).2 i (by rw [t12]; omega)
    obtain ⟨M1, x1, x2, x3, x4, x5⟩ := x_add fu hW hBM (L := L + i) hc3 hp.2.1 hp.2.2.2
    obtain ⟨A1, y1, y2, y3, y4, y5⟩ := m_put hR hB (L := L + i) hc3 hc2 (by omega) hp.2.2.1
    have hp1 : PT A1 M1 L (L + (i + 1)) (fun j => if j = L + i then txC 12 i else P j) := ⟨by rw [y4]; exact hp.1, x4, fun j hj => y5 j hj, x5⟩
    obtain ⟨A', M', P', r1, r2, r3, r4, r5, r6, r7, r8⟩ := ih (i + 1) L _ A1 M1 (m - 1) (m2 - 1) (by omega) (by omega) (by omega) (y2.fq.rW hR) y3 (x2.fq.xW hW) x3 hp1 hL
    rw [show m - 1 + 1 = m by omega] at r1
    rw [show m2 - 1 + 1 = m2 by omega] at r2
    refine ⟨A', M', P', ?_, ?_, y2.tr r3, x2.tr r4, r5, r6, r7, fun j hj => by rw [r8 j hj, if_neg (by omega)]⟩
    · rw [fX16_unfolded_L174, x_rcS (by decide), ob_some, x_len fu (by decide), b2_some, t12, if_neg (nI_ge (by omega) (by decide)), gR_ok o, ob_some, rw_g1082_323 hR, gI_ok o, ob_some, hp.1, ob_some, x_char fu (by decide) (by rw [t12]; omega), b2_some, nI_add, y1, ob_some, nI_1]
      exact r1
    · rw [fX7_readPath_L160, x_rcS (by decide), ob_some, x_len fu (by decide), b2_some, t12, if_neg (nI_ge (by omega) (by decide)), ob_some, x_char fu (by decide) (by rw [t12]; omega), b2_some, rc_ok (xw_ok319 hW), ob_some, x1, ob_some, nI_1]
      exact r2
end Path
