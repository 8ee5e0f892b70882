/-! ===== part 97n: all that may go, in both ===== -/
section All
variable {A M : Mm}
theorem m_one_eq (fu : Nat) (hR : RW A) {k nw t im r : Nat} {b0 : Int32} {v : Nat → Nat} (hk : k < 16) (hI : CIw A k nw t im b0 v) (hl : 1 ≤ lfN v) (hr : r < 2 ^ 30) : fX16_one fu 323 (some (342 + 4 * k)) (nI r) A = fX16_one_L36 fu 323 (some (342 + 4 * k)) (nI (dnN v r)) (nI (dfN v r)) A := by
  have hA := rw_cnO hR k hk
  have hcl1 := hI.cl1
  have hms1 := hI.ms1
  obtain ⟨w1, w2⟩ := m_within fu hR hk hI hl hr
  have hd : dnN v r ≤ 1460 := by unfold dnN; omega
  unfold fX16_one fX16_one_L35 fX12_behind
  rw [w1, b2_some, gI_ok hA, ob_some, hI.cl]
  simp only [gI_ok hA, rc_ok hA, ob_some, b2_some]
  unfold dfN
  by_cases c : (v 7) = 1
  · rw [c, if_neg (show ¬ nI 1 = 0 by decide)]
    by_cases c2 : dnN v r = 1 + (v 4) + (v 5) - (v 2)
    · rw [if_pos (w2.mpr c2)]
      by_cases c3 : dnN v r < r
      · rw [if_neg (nI_ge c3 (by omega)), if_pos ⟨rfl, c2, c3⟩]
        rfl
      · rw [if_pos (nI_le (by omega) (by omega)), if_neg (fun e => c3 e.2.2)]
        rfl
    · rw [if_neg (fun e => c2 (w2.mp e)), if_neg (fun e => c2 e.2.1)]
      rfl
  · rw [show (v 7) = 0 by omega, if_pos (show nI 0 = 0 from rfl), if_neg (fun e => absurd e.1 (by decide))]
    rfl
/-- the reference's look at what may go -/
theorem m_L17 (fu m : Nat) (hR : RW A) {k nw t im : Nat} {b0 : Int32} {v : Nat → Nat} (hk : k < 16) (hI : CI A k nw t im b0 v) (h1 : 1 ≤ lfN v) :
    (min (v 10) (v 13) ≤ (v 2) - (v 1) → fX16_sendAll_L17 fu (m + 1) 323 (some (342 + 4 * k)) 1 A = fX16_sendAll_L17 fu m 323 (some (342 + 4 * k)) 0 A) ∧ ((v 2) - (v 1) < min (v 10) (v 13) → (goN v (min (v 10) (v 13) - ((v 2) - (v 1))) → fX16_sendAll_L17 fu (m + 1) 323 (some (342 + 4 * k)) 1 A = (fX16_one_L36 fu 323 (some (342 + 4 * k)) (nI (dnN v (min (v 10) (v 13) - ((v 2) - (v 1))))) (nI (dfN v (min (v 10) (v 13) - ((v 2) - (v 1))))) A).bind (fun M2 => fX16_sendAll_L152 fu (fun b0 b1 b2 M => fX16_sendAll_L17 fu m b0 b1 b2 M) 323 (some (342 + 4 * k)) 1 M2)) ∧ (¬ goN v (min (v 10) (v 13) - ((v 2) - (v 1))) → fX16_sendAll_L17 fu (m + 1) 323 (some (342 + 4 * k)) 1 A = fX16_sendAll_L17 fu m 323 (some (342 + 4 * k)) 0 A)) := by
  have hA := rw_cnO hR k hk
  have b1 := hI.hl1
  have b2' := hI.bl1
  have hms1 := hI.ms1
  have hcl1 := hI.cl1
  have hcw1 := hI.cw1
  have hwi1 := hI.wi1
  have hua := hI.ua
  have ham := hI.am
  have hmL := hI.mL
  have one0 : ¬ (1 : Int32) = 0 := by decide
  have hl31 : lfN v < 2 ^ 31 := by unfold lfN; omega
  have hlf := m_left fu hR hk hI
  have ew : jmin (nI (v 10)) (nI (v 13)) = nI (min (v 10) (v 13)) := jmin_nI (by omega) (by omega)
  have ef : (b0 + nI (v 2)) - (b0 + nI (v 1)) = nI ((v 2) - (v 1)) := by rw [sub_b0, nI_sub hua]
  have stop : ∀ r, fX16_sendAll_L139 fu (fun b0 b1 b2 M => fX16_sendAll_L17 fu m b0 b1 b2 M) 323 (some (342 + 4 * k)) r A = fX16_sendAll_L17 fu m 323 (some (342 + 4 * k)) 0 A := fun r => by
    unfold fX16_sendAll_L139 fX16_sendAll_L140 fX16_sendAll_L152 fX16_sendAll_L171 fX16_sendAll_L172
    rw [if_pos rfl, if_pos rfl]
  refine ⟨fun hr => ?_, fun hr => ?_⟩
  · rcases room_cases (w := min (v 10) (v 13)) (f := (v 2) - (v 1)) (by omega) (by omega) with ⟨-, q⟩ | ⟨q, -⟩
    · have w0 := m_within0 fu hR hk hI h1 q
      have h86 : ∀ d r, fX16_sendAll_L86 fu (fun b0 b1 b2 M => fX16_sendAll_L17 fu m b0 b1 b2 M) 323 (some (342 + 4 * k)) d r 0 A = fX16_sendAll_L17 fu m 323 (some (342 + 4 * k)) 0 A := fun d r => by
        unfold fX16_sendAll_L86 fX16_sendAll_L87 fX16_sendAll_L101
        rw [if_pos rfl, if_pos (by decide)]
        exact stop r
      rw [fX16_sendAll_L17, if_neg one0]
      simp only [gI_ok hA, ob_some, hI.at', hI.una, hI.cw, hI.wi, ew, ef, w0, b2_some, h86]
      by_cases c : (mF A 798 (342 + 4 * k)) = 0
      · rw [if_pos c]
      · rw [if_neg c]
        unfold fX12_behind
        simp only [rc_ok hA, gI_ok hA, ob_some, b2_some]
        split
        · first
          | exact h86 _ _
          | (rw [if_pos q]; exact h86 _ _)
        · exact h86 _ _
    · omega
  · have er : nI (min (v 10) (v 13)) - nI ((v 2) - (v 1)) = nI (min (v 10) (v 13) - ((v 2) - (v 1))) := nI_sub (by omega)
    have hr1 : 1 ≤ min (v 10) (v 13) - ((v 2) - (v 1)) := by omega
    have hr2 : min (v 10) (v 13) - ((v 2) - (v 1)) < 2 ^ 30 := by omega
    have hone := m_one_eq fu hR hk hI.w h1 hr2
    obtain ⟨w1, w2⟩ := m_within fu hR hk hI.w h1 hr2
    have hd : dnN v (min (v 10) (v 13) - ((v 2) - (v 1))) ≤ 1460 := by unfold dnN; omega
    have hf : dfN v (min (v 10) (v 13) - ((v 2) - (v 1))) ≤ 1 := by unfold dfN; split <;> omega
    have hp := dd_pos h1 hr1 hms1.1 hcl1
    generalize hrr : min (v 10) (v 13) - ((v 2) - (v 1)) = r at *
    have q1 : nI (dnN v r) = nI (v 9) ↔ dnN v r = (v 9) := nI_eq (by omega) (by omega)
    have q2 : nI (dnN v r) + nI (dfN v r) = nI (lfN v) ↔ dnN v r + dfN v r = lfN v := by rw [nI_add]; exact nI_eq (by omega) hl31
    have q3 : nI ((v 2) - (v 1)) = 0 ↔ (v 2) - (v 1) = 0 := nI_eq (b := 0) (by omega) (by decide)
    have q0 : ¬ nI (dnN v r) + nI (dfN v r) ≤ 0 := by rw [nI_add]; exact nI_nle (by omega) (by omega)
    have go : fX16_sendAll_L135 fu (fun b0 b1 b2 M => fX16_sendAll_L17 fu m b0 b1 b2 M) 323 (some (342 + 4 * k)) (nI r) A = (fX16_one_L36 fu 323 (some (342 + 4 * k)) (nI (dnN v r)) (nI (dfN v r)) A).bind (fun M2 => fX16_sendAll_L152 fu (fun b0 b1 b2 M => fX16_sendAll_L17 fu m b0 b1 b2 M) 323 (some (342 + 4 * k)) 1 M2) := by
      unfold fX16_sendAll_L135 fX16_sendAll_L140
      rw [if_neg one0, rc_ok (rw_ok323 hR), ob_some, hone]
    have h101 : fX16_sendAll_L17 fu (m + 1) 323 (some (342 + 4 * k)) 1 A = fX16_sendAll_L101 fu (fun b0 b1 b2 M => fX16_sendAll_L17 fu m b0 b1 b2 M) 323 (some (342 + 4 * k)) (nI ((v 2) - (v 1))) (nI r) (nI (dnN v r)) (nI (dnN v r)) (nI (dfN v r)) A := by
      have ef' : (mF A 773 (342 + 4 * k)) - (b0 + nI (v 1)) = nI ((v 2) - (v 1)) := by rw [hI.at']; exact ef
      rw [fX16_sendAll_L17, if_neg one0, gI_ok hA, ob_some, gI_ok hA, ob_some, gI_ok hA, ob_some, gI_ok hA, ob_some, hI.una, hI.cw, hI.wi, ew, ef', er, w1, b2_some, gI_ok hA, ob_some, hI.cl]
      unfold dfN
      by_cases c : (v 7) = 1
      · rw [c, if_neg (show ¬ nI 1 = 0 by decide), gI_ok hA, ob_some, rc_ok hA, ob_some]
        unfold fX12_behind
        simp only [gI_ok hA, ob_some, b2_some]
        by_cases c2 : dnN v r = 1 + (v 4) + (v 5) - (v 2)
        · rw [if_pos (w2.mpr c2)]
          by_cases c3 : dnN v r < r
          · rw [if_neg (nI_ge c3 (by omega)), if_pos ⟨trivial, c2, c3⟩]
            unfold fX16_sendAll_L87
            rw [if_neg one0]
            rfl
          · rw [if_pos (nI_le (by omega) (by omega)), if_neg (fun e => c3 e.2.2)]
            unfold fX16_sendAll_L86 fX16_sendAll_L87
            rw [if_pos rfl]
            rfl
        · rw [if_neg (fun e => c2 (w2.mp e)), if_neg (fun e => c2 e.2.1)]
          unfold fX16_sendAll_L86 fX16_sendAll_L87
          rw [if_pos rfl]
          rfl
      · rw [show (v 7) = 0 by omega, if_pos (show nI 0 = 0 from rfl), if_neg (fun e => absurd e.1 (by decide))]
        unfold fX16_sendAll_L86 fX16_sendAll_L87
        rw [if_pos rfl]
        rfl
    unfold goN
    refine ⟨fun hg => ?_, fun hg => ?_⟩
    · rw [h101]
      unfold fX16_sendAll_L101
      rw [if_neg q0, gI_ok hA, ob_some, hI.ms]
      by_cases g1 : dnN v r = (v 9)
      · rw [if_pos (q1.mpr g1)]
        exact go
      · rw [if_neg (fun e => g1 (q1.mp e)), gI_ok hA, ob_some, rc_ok hA, ob_some, hlf, b2_some]
        by_cases g2 : dnN v r + dfN v r = lfN v
        · rw [if_pos (q2.mpr g2)]
          exact go
        · rw [if_neg (fun e => g2 (q2.mp e)), if_pos (q3.mpr ?_)]
          · exact go
          · rcases hg with g | g | g
            · exact absurd g g1
            · exact absurd g g2
            · exact g
    · rw [h101]
      unfold fX16_sendAll_L101
      rw [if_neg q0, gI_ok hA, ob_some, hI.ms, if_neg (fun e => hg (Or.inl (q1.mp e))), gI_ok hA, ob_some, rc_ok hA, ob_some, hlf, b2_some, if_neg (fun e => hg (Or.inr (Or.inl (q2.mp e)))), if_neg (fun e => hg (Or.inr (Or.inr (q3.mp e))))]
      exact stop (nI r)
end All
