/-! ===== part 97l: what may go, in both ===== -/
/-- what is left, what one segment holds, how far it may go -/
def lfN (v : Nat → Nat) : Nat := 1 + (v 4) + (v 5) + (v 7) - (v 2)
def dnN (v : Nat → Nat) (r : Nat) : Nat := min (min (v 9) (1 + (v 4) + (v 5) - (v 2))) r
def dfN (v : Nat → Nat) (r : Nat) : Nat := if (v 7) = 1 ∧ dnN v r = 1 + (v 4) + (v 5) - (v 2) ∧ dnN v r < r then 1 else 0
section May
variable {A M : Mm}
theorem m_left (fu : Nat) (hR : RW A) {k nw t im : Nat} {b0 : Int32} {v : Nat → Nat} (hk : k < 16) (hI : CI A k nw t im b0 v) : fX12_left fu (342 + 4 * k) (mF A 773 (342 + 4 * k)) A = some (nI (lfN v), A) := by
  have hA := rw_cnO hR k hk
  have ham := hI.am
  have hmL := hI.mL
  have hcl1 := hI.cl1
  unfold fX12_left fX12_behind lfN
  simp only [rc_ok hA, gI_ok hA, ob_some, b2_some, hI.bg, hI.hl, hI.bl, hI.at', hI.cl]
  have e1 : b0 + 1 + nI (v 4) + nI (v 5) = b0 + nI (1 + (v 4) + (v 5)) := by
    rw [Int32.add_assoc, nI_add, Int32.add_assoc, show (1 : Int32) + nI ((v 4) + (v 5)) = nI (1 + ((v 4) + (v 5))) from nI_add 1 _, show 1 + ((v 4) + (v 5)) = 1 + (v 4) + (v 5) by omega]
  rw [e1]
  by_cases c : (v 7) = 0
  · rw [c, if_pos (show nI 0 = 0 from rfl), Int32.add_zero, sub_b0, nI_sub (by omega)]
    rfl
  · have c1 : (v 7) = 1 := by omega
    rw [c1, if_neg (show ¬ nI 1 = 0 by decide), Int32.add_assoc, nI_1, sub_b0, nI_sub (by omega)]
theorem x_left (fu : Nat) {k c nw t im : Nat} {b0 : Int32} {v : Nat → Nat} (c1 : okA M 1 c) (hE : CE A M k c) (hI : CI A k nw t im b0 v) : fX1_left fu c M = some (nI (lfN v), M) := by
  have ham := hI.am
  have hmL := hI.mL
  have hcl1 := hI.cl1
  have b1 := hI.hl1
  have b2' := hI.bl1
  unfold fX1_left fX1_dataEnd lfN
  simp only [rc_ok c1, gI_ok c1, ob_some, b2_some, ← hE.bg, ← hE.hl, ← hE.bl, ← hE.at', ← hE.cl, hI.bg, hI.hl, hI.bl, hI.at', hI.cl]
  have e1 : b0 + 1 + nI (v 4) + nI (v 5) = b0 + nI (1 + (v 4) + (v 5)) := by
    rw [Int32.add_assoc, nI_add, Int32.add_assoc, show (1 : Int32) + nI ((v 4) + (v 5)) = nI (1 + ((v 4) + (v 5))) from nI_add 1 _, show 1 + ((v 4) + (v 5)) = 1 + (v 4) + (v 5) by omega]
  rw [e1, sub_b0]
  by_cases cc : (v 7) = 0
  · rw [cc, if_pos (show nI 0 = 0 from rfl), Int32.add_zero, nI_sub (by omega)]
    rfl
  · have c1 : (v 7) = 1 := by omega
    rw [c1, if_neg (show ¬ nI 1 = 0 by decide)]
    have e2 : nI (1 + (v 4) + (v 5)) - nI (v 2) + (1 : Int32) = nI (1 + (v 4) + (v 5) + 1) - nI (v 2) := by
      rw [← nI_1, Int32.sub_eq_add_neg, Int32.sub_eq_add_neg, Int32.add_assoc, Int32.add_assoc, Int32.add_comm (-nI (v 2)) 1]
    rw [e2, nI_sub (by omega)]
/-- numbers below nothing -/
theorem jmin_neg {x y : Int32} (h : x ≤ 0) (hy : 0 ≤ y) : jmin y x = x := by
  unfold jmin
  by_cases c : x < y
  · rw [if_pos c]
  · rw [if_neg c]
    have := Int32.le_antisymm (Int32.le_trans h hy) (Int32.not_lt.mp c)
    exact this.symm
theorem jmax_neg {x : Int32} (h : x ≤ 0) : jmax (0 : Int32) x = 0 := by
  unfold jmax
  rw [if_neg (Int32.not_lt.mpr h)]
/-- the room -/
theorem room_cases {w f : Nat} (hw : w < 2 ^ 30) (hf : f < 2 ^ 30) : (w ≤ f ∧ nI w - nI f ≤ 0) ∨ (f < w ∧ nI w - nI f = nI (w - f)) := by
  by_cases c : w ≤ f
  · left
    refine ⟨c, ?_⟩
    by_cases e : w = f
    · subst e
      rw [nI_sub (Nat.le_refl _), Nat.sub_self]; decide
    · exact Int32.le_of_lt (pk_sneg hf (by omega))
  · right
    exact ⟨by omega, nI_sub (by omega)⟩
/-- what the reference takes within a room -/
theorem m_within (fu : Nat) (hR : RW A) {k nw t im r : Nat} {b0 : Int32} {v : Nat → Nat} (hk : k < 16) (hI : CIw A k nw t im b0 v) (hl : 1 ≤ lfN v) (hr : r < 2 ^ 30) : fX16_dataWithin fu (some (342 + 4 * k)) (nI r) A = some (nI (dnN v r), A) ∧ ((mF A 773 (342 + 4 * k)) + nI (dnN v r) = (mF A 797 (342 + 4 * k)) + (mF A 794 (342 + 4 * k)) + (mF A 796 (342 + 4 * k)) ↔ dnN v r = 1 + (v 4) + (v 5) - (v 2)) := by
  have hA := rw_cnO hR k hk
  have hcl1 := hI.cl1
  have hms1 := hI.ms1
  have b1 := hI.hl1
  have b2' := hI.bl1
  have e1 : b0 + 1 + nI (v 4) + nI (v 5) = b0 + nI (1 + (v 4) + (v 5)) := by
    rw [Int32.add_assoc, nI_add, Int32.add_assoc, show (1 : Int32) + nI ((v 4) + (v 5)) = nI (1 + ((v 4) + (v 5))) from nI_add 1 _, show 1 + ((v 4) + (v 5)) = 1 + (v 4) + (v 5) by omega]
  unfold lfN at hl
  have hd : dnN v r ≤ 1460 := by unfold dnN; omega
  refine ⟨?_, ?_⟩
  · unfold fX16_dataWithin fX12_behind
    simp only [rc_ok hA, gI_ok hA, ob_some, b2_some, hI.bg, hI.hl, hI.bl, hI.at', hI.ms, e1, sub_b0]
    rw [nI_sub (by omega), jmin_nI (by omega) (by omega), jmin_nI (by omega) (by omega)]
    have := jmax_nI (a := 0) (b := min (min (v 9) (1 + (v 4) + (v 5) - (v 2))) r) (by decide) (by omega)
    rw [Nat.max_eq_right (by omega)] at this
    rw [show jmax (0 : Int32) (nI (min (min (v 9) (1 + (v 4) + (v 5) - (v 2))) r)) = nI (min (min (v 9) (1 + (v 4) + (v 5) - (v 2))) r) from this]
    rfl
  · rw [hI.bg, hI.hl, hI.bl, hI.at', e1, Int32.add_assoc, nI_add]
    constructor
    · intro e
      have := b0_inj (x := (v 2) + dnN v r) (y := 1 + (v 4) + (v 5)) (by omega) (by omega) e
      omega
    · intro e
      rw [show (v 2) + dnN v r = 1 + (v 4) + (v 5) by omega]
theorem m_within0 (fu : Nat) (hR : RW A) {k nw t im : Nat} {b0 x : Int32} {v : Nat → Nat} (hk : k < 16) (hI : CI A k nw t im b0 v) (hl : 1 ≤ lfN v) (hx : x ≤ 0) : fX16_dataWithin fu (some (342 + 4 * k)) x A = some (0, A) := by
  have hA := rw_cnO hR k hk
  have hcl1 := hI.cl1
  have hms1 := hI.ms1
  have b1 := hI.hl1
  have b2' := hI.bl1
  have e1 : b0 + 1 + nI (v 4) + nI (v 5) = b0 + nI (1 + (v 4) + (v 5)) := by
    rw [Int32.add_assoc, nI_add, Int32.add_assoc, show (1 : Int32) + nI ((v 4) + (v 5)) = nI (1 + ((v 4) + (v 5))) from nI_add 1 _, show 1 + ((v 4) + (v 5)) = 1 + (v 4) + (v 5) by omega]
  unfold lfN at hl
  unfold fX16_dataWithin fX12_behind
  simp only [rc_ok hA, gI_ok hA, ob_some, b2_some, hI.bg, hI.hl, hI.bl, hI.at', hI.ms, e1, sub_b0]
  rw [nI_sub (by omega), jmin_nI (by omega) (by omega), jmin_neg hx (nI_0le (by omega)), jmax_neg hx]
end May
