/-! ===== part 97i: data go out, whole ===== -/
/-- the state after data with or without the end -/
def nst (v : Nat → Nat) (fi : Nat) : Nat := if fi = 1 ∧ (v 8) = 0 then (if (v 0) = 2 then 3 else 8) else (v 0)
def sendSt (n : Nat) : Prop := n = 2 ∨ n = 7 ∨ n = 3 ∨ n = 5 ∨ n = 8
/-- a segment from f on with n bytes and, if fi is 1, the end -/
def segOk (v : Nat → Nat) (f n fi : Nat) : Prop := 1 ≤ f ∧ f ≤ (v 3) ∧ n ≤ (v 9) ∧ f - 1 + n ≤ (v 4) + (v 5) ∧ fi ≤ 1 ∧ 1 ≤ n + fi ∧ (fi = 1 → (v 7) = 1 ∧ f - 1 + n = (v 4) + (v 5))
/-- does it hold the last byte -/
def pshOf (v : Nat → Nat) (f n : Nat) : Nat := if n ≠ 0 ∧ f - 1 + n = (v 4) + (v 5) then 1 else 0
section Data2
variable {A M : Mm}
theorem pshOf_le (v : Nat → Nat) (f n : Nat) : pshOf v f n ≤ 1 := by unfold pshOf; split <;> omega
theorem nst_send {v : Nat → Nat} {fi : Nat} (h : sendSt (v 0)) : sendSt (nst v fi) := by
  unfold nst
  split
  · unfold sendSt; split <;> omega
  · exact h
theorem x_finG (fu : Nat) {k c nw fi : Nat} {b0 : Int32} {v : Nat → Nat} (c1 : okA M 1 c) (hE : CE A M k c) (hS : CS A k nw b0 v) (hst : sendSt (v 0)) (hfi : fi ≤ 1) : (fi = 1 → fX1_finGoes fu c M = some (sF M 64 c (nI (nst v fi)))) ∧ (fi = 0 → sF M 64 c (nI (nst v fi)) = M) := by
  have e64 : (mF M 64 c) = nI (v 0) := hE.st.symm.trans hS.st
  have s27 := hS.s27
  have s358 := hS.s358
  refine ⟨fun h => ?_, fun h => ?_⟩
  · unfold fX1_finGoes nst
    simp only [gI_ok c1, ob_some, e64]
    rcases hst with q | q | q | q | q
    · rw [q, if_pos (show nI 2 = (2 : Int32) from rfl), pF_ok c1, ob_some, if_pos ⟨h, s27 (Or.inl q)⟩, if_pos rfl]; rfl
    · rw [q, if_neg (show ¬ nI 7 = (2 : Int32) by decide), if_pos (show nI 7 = (7 : Int32) from rfl), pF_ok c1, ob_some, if_pos ⟨h, s27 (Or.inr q)⟩, if_neg (by decide)]; rfl
    · have hf3 := (s358 (Or.inl q)).1
      rw [q, if_neg (show ¬ nI 3 = (2 : Int32) by decide), if_neg (show ¬ nI 3 = (7 : Int32) by decide), if_neg (fun e => by rw [hf3] at e; exact absurd e.2 (by decide)), sF_id (by rw [e64, q])]
    · have hf3 := (s358 (Or.inr (Or.inl q))).1
      rw [q, if_neg (show ¬ nI 5 = (2 : Int32) by decide), if_neg (show ¬ nI 5 = (7 : Int32) by decide), if_neg (fun e => by rw [hf3] at e; exact absurd e.2 (by decide)), sF_id (by rw [e64, q])]
    · have hf3 := (s358 (Or.inr (Or.inr q))).1
      rw [q, if_neg (show ¬ nI 8 = (2 : Int32) by decide), if_neg (show ¬ nI 8 = (7 : Int32) by decide), if_neg (fun e => by rw [hf3] at e; exact absurd e.2 (by decide)), sF_id (by rw [e64, q])]
  · refine sF_id ?_
    unfold nst
    rw [if_neg (fun e => by rw [h] at e; exact absurd e.1 (by decide))]
    exact e64
/-- numbers that are one number -/
theorem b0_inj {b : Int32} {x y : Nat} (hx : x < 2 ^ 30) (hy : y < 2 ^ 30) (e : b + nI x = b + nI y) : x = y := by
  have e2 : (b + nI x) - (b + nI y) = 0 := by rw [e]; exact Int32.sub_self _
  have h5 := (beh_nI (b := b) hx hy).mp (by rw [e2]; decide)
  have h6 := (bef_nI (b := b) hx hy).mp (by rw [e2]; decide)
  omega
theorem x_spHead (fu : Nat) {k c nw t im f n fi : Nat} {b0 : Int32} {v : Nat → Nat} (c1 : okA M 1 c) (hE : CE A M k c) (hI : CIw A k nw t im b0 v) (hs : segOk v f n fi) : fX9_sendPart fu 317 (some c) (b0 + nI f) (nI (n + fi)) M = fX9_sendPart_L49 fu 317 (some c) (b0 + nI f) (nI (n + fi)) (nI n) ((16 : Int32) ||| nI (8 * pshOf v f n)) M := by
  have b1 := hI.hl1
  have b2' := hI.bl1
  have hms1 := hI.ms1
  have edE : (mF M 77 c) + (mF M 78 c) + (mF M 76 c) = b0 + nI (1 + (v 4) + (v 5)) := by
    rw [← hE.bg, ← hE.hl, ← hE.bl, hI.bg, hI.hl, hI.bl, Int32.add_assoc, Int32.add_assoc, nI_add, show (1 : Int32) + nI ((v 4) + (v 5)) = nI (1 + ((v 4) + (v 5))) from nI_add 1 _, show 1 + ((v 4) + (v 5)) = 1 + (v 4) + (v 5) by omega]
  obtain ⟨hf1, hfm, hnm, hfn, hfi, hpos, hfin⟩ := hs
  have erem : (b0 + nI (1 + (v 4) + (v 5))) - (b0 + nI f) = nI (1 + (v 4) + (v 5) - f) := by rw [sub_b0, nI_sub (by omega)]
  have emin : jmin (nI (n + fi)) (nI (1 + (v 4) + (v 5) - f)) = nI n := by
    rw [jmin_nI (by omega) (by omega)]
    refine congrArg nI ?_
    by_cases q : fi = 1
    · have := (hfin q).2; omega
    · omega
  clear hfin
  unfold fX9_sendPart fX1_dataEnd
  simp only [rc_ok c1, gI_ok c1, ob_some, b2_some, edE, erem, emin]
  rw [if_neg (nI_nle (by omega) (by omega)), if_pos (nI_0le (by omega))]
  unfold pshOf
  by_cases q : n = 0
  · rw [q, if_pos (show nI 0 ≤ (0 : Int32) by decide), if_neg (fun e => e.1 rfl)]
    rfl
  · have en : b0 + nI f + nI n = b0 + nI (f + n) := by rw [Int32.add_assoc, nI_add]
    rw [if_neg (nI_nle (by omega) (by omega)), en]
    by_cases q2 : f - 1 + n = (v 4) + (v 5)
    · rw [if_pos (by rw [show f + n = 1 + (v 4) + (v 5) by omega]), if_pos ⟨q, q2⟩]
      rfl
    · rw [if_neg (fun e => q2 (by have := b0_inj (x := f + n) (y := 1 + (v 4) + (v 5)) (by omega) (by omega) e; omega)), if_neg (fun e => q2 e.2)]
      rfl
theorem x_spFin (fu : Nat) {k c nw f n fi : Nat} {b0 : Int32} {v : Nat → Nat} (c1 : okA M 1 c) (hE : CE A M k c) (hS : CS A k nw b0 v) (hst : sendSt (v 0)) (hfi : fi ≤ 1) (hn : n ≤ 1460) (x : Int32) : fX9_sendPart_L49 fu 317 (some c) x (nI (n + fi)) (nI n) ((16 : Int32) ||| nI (8 * pshOf v f n)) M = fX9_sendPart_L65 fu 317 (some c) x (nI n) (nI (16 + 8 * pshOf v f n + fi)) (sF M 64 c (nI (nst v fi))) := by
  obtain ⟨g1, g2⟩ := x_finG (A := A) fu c1 hE hS hst hfi
  have hp := pshOf_le v f n
  obtain ⟨fl1, fl2, fl3, fl4⟩ := flag4 hp hfi
  unfold fX9_sendPart_L49
  by_cases q : fi = 1
  · rw [if_neg (nI_ge (by omega) (by omega)), rc_ok c1, ob_some, g1 q, ob_some, ← fl4, q]
    rfl
  · have q0 : fi = 0 := by omega
    rw [if_pos (nI_le (by omega) (by omega)), g2 q0, ← fl4, q0]
    have : ((16 : Int32) ||| nI (8 * pshOf v f n)) ||| nI 0 = (16 : Int32) ||| nI (8 * pshOf v f n) := Int32.or_zero
    rw [this]
/-- the reference: flags, and no stray -/
theorem m_doHead (fu : Nat) {B : Mm} (hR : RW B) {k nw t im f n fi m : Nat} {b0 : Int32} {v : Nat → Nat} (hk : k < 16) (hI : CIw B k nw t im b0 v) (hS : CS B k nw b0 v) (hst : sendSt (v 0)) (hs : segOk v f n fi) : fX16_dataOut_L3 fu (m + 1) 323 (some (342 + 4 * k)) (b0 + nI f) (nI n) (nI fi) (nI n) B = fX16_dataOut_L113 fu 323 (some (342 + 4 * k)) (b0 + nI f) (nI n) (nI fi) (nI (16 + 8 * pshOf v f n + fi)) B := by
  have hA := rw_cnO hR k hk
  have b1 := hI.hl1
  have b2' := hI.bl1
  have hms1 := hI.ms1
  have hp := pshOf_le v f n
  have edE : (mF B 797 (342 + 4 * k)) + (mF B 794 (342 + 4 * k)) + (mF B 796 (342 + 4 * k)) = b0 + nI (1 + (v 4) + (v 5)) := by
    rw [hI.bg, hI.hl, hI.bl, Int32.add_assoc, Int32.add_assoc, nI_add, show (1 : Int32) + nI ((v 4) + (v 5)) = nI (1 + ((v 4) + (v 5))) from nI_add 1 _, show 1 + ((v 4) + (v 5)) = 1 + (v 4) + (v 5) by omega]
  obtain ⟨hf1, hfm, hnm, hfn, hfi, hpos, hfin⟩ := hs
  clear hfin
  obtain ⟨fl1, fl2, fl3, fl4⟩ := flag4 hp hfi
  have h67 : ∀ s0 s1, s0 ||| s1 = nI (16 + 8 * pshOf v f n + fi) → fX16_dataOut_L67 fu 323 (some (342 + 4 * k)) (b0 + nI f) (nI n) (nI fi) s0 s1 B = fX16_dataOut_L113 fu 323 (some (342 + 4 * k)) (b0 + nI f) (nI n) (nI fi) (nI (16 + 8 * pshOf v f n + fi)) B := by
    intro s0 s1 e
    unfold fX16_dataOut_L67
    rw [e]
    simp only [gI_ok hA, ob_some, hS.st, hI.ms, if_pos (nI_le hnm (by omega))]
    rcases hst with q | q | q | q | q <;> rw [q] <;> rfl
  have h56 : ∀ s1, ((16 : Int32) ||| s1) = ((16 : Int32) ||| nI (8 * pshOf v f n)) → fX16_dataOut_L56 fu 323 (some (342 + 4 * k)) (b0 + nI f) (nI n) (nI fi) 16 s1 B = fX16_dataOut_L113 fu 323 (some (342 + 4 * k)) (b0 + nI f) (nI n) (nI fi) (nI (16 + 8 * pshOf v f n + fi)) B := by
    intro s1 e
    unfold fX16_dataOut_L56
    by_cases q : fi = 1
    · subst q
      rw [if_neg (show ¬ nI 1 = 0 by decide)]
      exact h67 _ _ (by rw [e]; exact fl4)
    · have q0 : fi = 0 := by omega
      subst q0
      rw [if_pos (show nI 0 = 0 from rfl)]
      exact h67 _ _ (by rw [e]; exact fl4)
  rw [fX16_dataOut_L3, if_pos (Int32.le_refl _)]
  unfold fX16_dataOut_L55 fX12_behind
  simp only [rc_ok hA, gI_ok hA, ob_some, b2_some, edE]
  by_cases q : n = 0
  · subst q
    rw [if_pos (show nI 0 ≤ (0 : Int32) by decide)]
    refine h56 0 ?_
    have : pshOf v f 0 = 0 := by unfold pshOf; rw [if_neg (fun e => e.1 rfl)]
    rw [this]
    rfl
  · have en : b0 + nI f + nI n = b0 + nI (f + n) := by rw [Int32.add_assoc, nI_add]
    rw [if_neg (nI_nle (by omega) (by omega)), en]
    by_cases q2 : f - 1 + n = (v 4) + (v 5)
    · have : pshOf v f n = 1 := by unfold pshOf; rw [if_pos ⟨q, q2⟩]
      rw [if_pos (by rw [show f + n = 1 + (v 4) + (v 5) by omega])]
      exact h56 8 (by rw [this]; rfl)
    · have : pshOf v f n = 0 := by unfold pshOf; rw [if_neg (fun e => q2 e.2)]
      rw [if_neg (fun e => q2 (by have := b0_inj (x := f + n) (y := 1 + (v 4) + (v 5)) (by omega) (by omega) e; omega))]
      exact h56 0 (by rw [this]; rfl)
end Data2
