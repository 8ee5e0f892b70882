/-! ===== part 97m: what may go, in both ===== -/
def goN (v : Nat → Nat) (r : Nat) : Prop := dnN v r = (v 9) ∨ dnN v r + dfN v r = lfN v ∨ (v 2) - (v 1) = 0
section May2
variable {A M : Mm}
theorem dd_pos {v : Nat → Nat} {r : Nat} (hl : 1 ≤ lfN v) (hr : 1 ≤ r) (hms : 64 ≤ (v 9)) (hcl : (v 7) ≤ 1) : 1 ≤ dnN v r + dfN v r := by
  unfold lfN at hl
  unfold dfN
  by_cases c : (v 7) = 1 ∧ dnN v r = 1 + (v 4) + (v 5) - (v 2) ∧ dnN v r < r
  · rw [if_pos c]; omega
  · rw [if_neg c]
    unfold dnN at *
    omega
theorem dd_seg {v : Nat → Nat} {r : Nat} (hl : 1 ≤ lfN v) (hr : 1 ≤ r) (hms : 64 ≤ (v 9)) (hcl : (v 7) ≤ 1) (h1 : 1 ≤ (v 2)) (h2 : (v 2) ≤ (v 3)) : segOk v (v 2) (dnN v r) (dfN v r) := by
  have hp := dd_pos hl hr hms hcl
  unfold lfN at hl
  refine ⟨h1, h2, ?_, ?_, ?_, hp, ?_⟩
  · unfold dnN; omega
  · unfold dnN; omega
  · unfold dfN; split <;> omega
  · unfold dfN
    by_cases c : (v 7) = 1 ∧ dnN v r = 1 + (v 4) + (v 5) - (v 2) ∧ dnN v r < r
    · intro _; exact ⟨c.1, by omega⟩
    · rw [if_neg c]; intro e; cases e
/-- what the class's segment holds -/
theorem dd_min {v : Nat → Nat} {r : Nat} (hr : 1 ≤ r) (hcl : (v 7) ≤ 1) : min (if min (v 9) (1 + (v 4) + (v 5) - (v 2)) = 1 + (v 4) + (v 5) - (v 2) ∧ (v 7) = 1 then min (v 9) (1 + (v 4) + (v 5) - (v 2)) + 1 else min (v 9) (1 + (v 4) + (v 5) - (v 2))) r = dnN v r + dfN v r := by
  unfold dfN dnN
  by_cases c : min (v 9) (1 + (v 4) + (v 5) - (v 2)) = 1 + (v 4) + (v 5) - (v 2) ∧ (v 7) = 1
  · rw [if_pos c]
    by_cases c2 : (v 7) = 1 ∧ min (min (v 9) (1 + (v 4) + (v 5) - (v 2))) r = 1 + (v 4) + (v 5) - (v 2) ∧ min (min (v 9) (1 + (v 4) + (v 5) - (v 2))) r < r
    · rw [if_pos c2]; omega
    · rw [if_neg c2]; omega
  · rw [if_neg c]
    have c2 : ¬ ((v 7) = 1 ∧ min (min (v 9) (1 + (v 4) + (v 5) - (v 2))) r = 1 + (v 4) + (v 5) - (v 2) ∧ min (min (v 9) (1 + (v 4) + (v 5) - (v 2))) r < r) := by omega
    rw [if_neg c2]; omega
theorem dd_full {v : Nat → Nat} {r : Nat} (hr : 1 ≤ r) : min (dnN v r + dfN v r) (1 + (v 4) + (v 5) - (v 2)) = dnN v r := by
  unfold dfN
  by_cases c : (v 7) = 1 ∧ dnN v r = 1 + (v 4) + (v 5) - (v 2) ∧ dnN v r < r
  · rw [if_pos c]; omega
  · rw [if_neg c]; unfold dnN; omega
theorem x_dE {k c nw t im : Nat} {b0 : Int32} {v : Nat → Nat} (fu : Nat) (c1 : okA M 1 c) (hE : CE A M k c) (hI : CI A k nw t im b0 v) : fX1_dataEnd fu c M = some (b0 + nI (1 + (v 4) + (v 5)), M) := by
  unfold fX1_dataEnd
  simp only [gI_ok c1, ob_some, ← hE.bg, ← hE.hl, ← hE.bl, hI.bg, hI.hl, hI.bl]
  rw [Int32.add_assoc, nI_add, Int32.add_assoc, show (1 : Int32) + nI ((v 4) + (v 5)) = nI (1 + ((v 4) + (v 5))) from nI_add 1 _, show 1 + ((v 4) + (v 5)) = 1 + (v 4) + (v 5) by omega]
theorem x_segF (fu : Nat) {k c nw t im x : Nat} {b0 : Int32} {v : Nat → Nat} (hC : CnO M c) (hE : CE A M k c) (hPm : (mF A 778 (342 + 4 * k)) = (mF M 320 (c + 5))) (hI : CI A k nw t im b0 v) (hx : x ≤ 1 + (v 4) + (v 5)) : fX1_segmentFrom fu c (b0 + nI x) M = some (nI (if min (v 9) (1 + (v 4) + (v 5) - x) = 1 + (v 4) + (v 5) - x ∧ (v 7) = 1 then min (v 9) (1 + (v 4) + (v 5) - x) + 1 else min (v 9) (1 + (v 4) + (v 5) - x)), M) := by
  obtain ⟨c1, c2, c3, c4, c5, c6, c7, c8, c9, c10, c11, c12, c13, hM⟩ := hC
  have b1 := hI.hl1
  have b2' := hI.bl1
  have hms1 := hI.ms1
  have hcl1 := hI.cl1
  unfold fX1_segmentFrom
  rw [rc_ok c1, ob_some, x_dE (A := A) fu c1 hE hI, b2_some, gR_ok c1, ob_some, c4, gI_ok hM, ob_some, ← hPm, hI.ms, sub_b0, nI_sub (by omega), jmin_nI (by omega) (by omega)]
  by_cases q : min (v 9) (1 + (v 4) + (v 5) - x) = 1 + (v 4) + (v 5) - x
  · rw [if_pos (by rw [q]), gI_ok c1, ob_some, ← hE.cl, hI.cl]
    by_cases q2 : (v 7) = 1
    · rw [q2, if_neg (show ¬ nI 1 = 0 by decide), if_pos ⟨q, rfl⟩, nI_1]
    · rw [show (v 7) = 0 by omega, if_pos (show nI 0 = 0 from rfl), if_neg (fun e => absurd e.2 (by decide))]
  · rw [if_neg (fun e => q ((nI_eq (by omega) (by omega)).mp e)), if_neg (fun e => q e.1)]
theorem x_segF_ex (fu : Nat) {k c nw t im : Nat} {b0 : Int32} {v : Nat → Nat} (hC : CnO M c) (hE : CE A M k c) (hI : CI A k nw t im b0 v) (x : Int32) : ∃ s, fX1_segmentFrom fu c x M = some (s, M) := by
  obtain ⟨c1, c2, c3, c4, c5, c6, c7, c8, c9, c10, c11, c12, c13, hM⟩ := hC
  unfold fX1_segmentFrom
  rw [rc_ok c1, ob_some, x_dE (A := A) fu c1 hE hI, b2_some, gR_ok c1, ob_some, c4, gI_ok hM, ob_some, gI_ok c1, ob_some]
  split
  · split
    · exact ⟨_, rfl⟩
    · exact ⟨_, rfl⟩
  · exact ⟨_, rfl⟩
theorem x_mayGo (fu : Nat) {k c nw t im : Nat} {b0 : Int32} {v : Nat → Nat} (hC : CnO M c) (hE : CE A M k c) (hPm : (mF A 778 (342 + 4 * k)) = (mF M 320 (c + 5))) (hPc : (mF A 779 (342 + 4 * k)) = (mF M 321 (c + 5))) (hI : CI A k nw t im b0 v) :
    (lfN v = 0 → fX1_mayGo fu c M = some (0, M)) ∧ (1 ≤ lfN v → min (v 10) (v 13) ≤ (v 2) - (v 1) → fX1_mayGo fu c M = some (0, M)) ∧ (1 ≤ lfN v → (v 2) - (v 1) < min (v 10) (v 13) → (goN v (min (v 10) (v 13) - ((v 2) - (v 1))) → fX1_mayGo fu c M = some (nI (dnN v (min (v 10) (v 13) - ((v 2) - (v 1))) + dfN v (min (v 10) (v 13) - ((v 2) - (v 1)))), M)) ∧ (¬ goN v (min (v 10) (v 13) - ((v 2) - (v 1))) → fX1_mayGo fu c M = some (0, M))) := by
  have hC' := hC
  obtain ⟨c1, c2, c3, c4, c5, c6, c7, c8, c9, c10, c11, c12, c13, hM⟩ := hC'
  have b1 := hI.hl1
  have b2' := hI.bl1
  have hms1 := hI.ms1
  have hcl1 := hI.cl1
  have hcw1 := hI.cw1
  have hwi1 := hI.wi1
  have hua := hI.ua
  have ham := hI.am
  have hmL := hI.mL
  have hlf := x_left (A := A) fu c1 hE hI
  have ew : jmin (nI (v 10)) (nI (v 13)) = nI (min (v 10) (v 13)) := jmin_nI (by omega) (by omega)
  have ef : (b0 + nI (v 2)) - (b0 + nI (v 1)) = nI ((v 2) - (v 1)) := by rw [sub_b0, nI_sub hua]
  have head : ∀ s, fX1_segmentFrom fu c (b0 + nI (v 2)) M = some (s, M) → fX1_mayGo fu c M = (if nI (lfN v) ≤ 0 then some ((0 : Int32), M) else if 0 < jmin s (nI (min (v 10) (v 13)) - nI ((v 2) - (v 1))) then (if jmin (jmin s (nI (min (v 10) (v 13)) - nI ((v 2) - (v 1)))) (nI (1 + (v 4) + (v 5)) - nI (v 2)) = nI (v 9) then fX1_mayGo_L81 fu (nI (lfN v)) (nI ((v 2) - (v 1))) (jmin s (nI (min (v 10) (v 13)) - nI ((v 2) - (v 1)))) (1 : Int32) M else fX1_mayGo_L81 fu (nI (lfN v)) (nI ((v 2) - (v 1))) (jmin s (nI (min (v 10) (v 13)) - nI ((v 2) - (v 1)))) (0 : Int32) M) else some ((0 : Int32), M)) := by
    intro s hs
    unfold fX1_mayGo
    simp only [rc_ok c1, ob_some, hlf, b2_some, gI_ok c1, ← hE.at', ← hE.una, hI.at', hI.una, hs, gR_ok c1, c4, gI_ok hM, ← hPc, ← hE.wi, hI.cw, hI.wi, ew, ef, x_dE (A := A) fu c1 hE hI, sub_b0, ← hPm, hI.ms]
  refine ⟨fun h0 => ?_, fun h1 hr => ?_, fun h1 hr => ?_⟩
  · obtain ⟨s, hs⟩ := x_segF_ex (A := A) fu hC hE hI (b0 + nI (v 2))
    rw [head s hs, h0, if_pos (by decide)]
  · have hx : (v 2) ≤ 1 + (v 4) + (v 5) := by unfold lfN at h1; omega
    have hs := x_segF (A := A) fu hC hE hPm hI hx
    have hn : ¬ nI (lfN v) ≤ 0 := nI_nle h1 (by unfold lfN; omega)
    rcases room_cases (w := min (v 10) (v 13)) (f := (v 2) - (v 1)) (by omega) (by omega) with ⟨-, q⟩ | ⟨q, -⟩
    · rw [head _ hs, if_neg hn, if_neg]
      rw [jmin_neg q (nI_0le (by split <;> omega))]
      exact Int32.not_lt.mpr q
    · omega
  · have hx : (v 2) ≤ 1 + (v 4) + (v 5) := by unfold lfN at h1; omega
    have hs := x_segF (A := A) fu hC hE hPm hI hx
    have hl31 : lfN v < 2 ^ 31 := by unfold lfN; omega
    have hn : ¬ nI (lfN v) ≤ 0 := nI_nle h1 hl31
    have hd : dnN v (min (v 10) (v 13) - ((v 2) - (v 1))) ≤ 1460 := by unfold dnN; omega
    have hf : dfN v (min (v 10) (v 13) - ((v 2) - (v 1))) ≤ 1 := by unfold dfN; split <;> omega
    have hp := dd_pos h1 (show 1 ≤ min (v 10) (v 13) - ((v 2) - (v 1)) by omega) hms1.1 hcl1
    have em : jmin (nI (if min (v 9) (1 + (v 4) + (v 5) - (v 2)) = 1 + (v 4) + (v 5) - (v 2) ∧ (v 7) = 1 then min (v 9) (1 + (v 4) + (v 5) - (v 2)) + 1 else min (v 9) (1 + (v 4) + (v 5) - (v 2)))) (nI (min (v 10) (v 13)) - nI ((v 2) - (v 1))) = nI (dnN v (min (v 10) (v 13) - ((v 2) - (v 1))) + dfN v (min (v 10) (v 13) - ((v 2) - (v 1)))) := by
      rw [nI_sub (by omega), jmin_nI (by split <;> omega) (by omega), dd_min (by omega) hcl1]
    have e2 : jmin (nI (dnN v (min (v 10) (v 13) - ((v 2) - (v 1))) + dfN v (min (v 10) (v 13) - ((v 2) - (v 1))))) (nI (1 + (v 4) + (v 5)) - nI (v 2)) = nI (dnN v (min (v 10) (v 13) - ((v 2) - (v 1)))) := by
      rw [nI_sub hx, jmin_nI (by omega) (by omega), dd_full (by omega)]
    have pos : (0 : Int32) < nI (dnN v (min (v 10) (v 13) - ((v 2) - (v 1))) + dfN v (min (v 10) (v 13) - ((v 2) - (v 1)))) := nI_lt (a := 0) (by omega) (by omega)
    have hh := head _ hs
    rw [em, e2, if_neg hn, if_pos pos] at hh
    have q1 : nI (dnN v (min (v 10) (v 13) - ((v 2) - (v 1)))) = nI (v 9) ↔ dnN v (min (v 10) (v 13) - ((v 2) - (v 1))) = (v 9) := nI_eq (by omega) (by omega)
    have q2 : nI (dnN v (min (v 10) (v 13) - ((v 2) - (v 1))) + dfN v (min (v 10) (v 13) - ((v 2) - (v 1)))) = nI (lfN v) ↔ dnN v (min (v 10) (v 13) - ((v 2) - (v 1))) + dfN v (min (v 10) (v 13) - ((v 2) - (v 1))) = lfN v := nI_eq (by omega) hl31
    have q3 : nI ((v 2) - (v 1)) = 0 ↔ (v 2) - (v 1) = 0 := nI_eq (b := 0) (by omega) (by decide)
    unfold fX1_mayGo_L81 at hh
    unfold goN
    refine ⟨fun hg => ?_, fun hg => ?_⟩
    · rw [hh]
      by_cases g1 : dnN v (min (v 10) (v 13) - ((v 2) - (v 1))) = (v 9)
      · rw [if_pos (q1.mpr g1), if_neg (by decide)]
      · rw [if_neg (fun e => g1 (q1.mp e)), if_pos rfl]
        by_cases g2 : dnN v (min (v 10) (v 13) - ((v 2) - (v 1))) + dfN v (min (v 10) (v 13) - ((v 2) - (v 1))) = lfN v
        · rw [if_pos (q2.mpr g2)]
        · rw [if_neg (fun e => g2 (q2.mp e)), if_pos (q3.mpr ?_)]
          rcases hg with g | g | g
          · exact absurd g g1
          · exact absurd g g2
          · exact g
    · rw [hh, if_neg (fun e => hg (Or.inl (q1.mp e))), if_pos rfl, if_neg (fun e => hg (Or.inr (Or.inl (q2.mp e)))), if_neg (fun e => hg (Or.inr (Or.inr (q3.mp e))))]
end May2
