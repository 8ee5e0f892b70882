/-! ===== part 9zb: boot, the whole call ===== -/
section Boot2
variable {X : Mm} {KN KS im ig ek ty : Nat}
theorem op_boot (fu : Nat) (hfu : 70000 ≤ fu) (h : LB KN KS im ig ek ty X) (h0 : Lst0 X) {KN' KS' : Nat} (k1 : KN + 1 ≤ KN') (k2 : KS + 4096 ≤ KS') (k3 : KN' ≤ 600300) (k4 : KS' ≤ 7302250) (a1 a2 a3 a4 a5 : Int32) : ∃ v X1 X2, fX11_boot fu 300 a1 a2 a3 a4 a5 X = some (v, X1) ∧ fX16_boot fu 323 a1 a2 a3 a4 a5 X1 = some (v, X2) ∧ (X2 = X ∨ ∃ F ek', JJ X2 X2 KN' KS' 0 0 im ig F ek' ty 0) := by
  have hR := h.rw
  have hW := h.xw
  have o := rw_ok323 hR
  have o3 := xw_ok300 hW
  have n450 := h.n450
  by_cases c1 : a2 < 8
  · refine ⟨-1, X, X, ?_, ?_, Or.inl rfl⟩
    · unfold fX11_boot
      rw [if_pos c1]
    · unfold fX16_boot
      rw [if_pos c1]
  by_cases c2 : (30 : Int32) < a2
  · refine ⟨-1, X, X, ?_, ?_, Or.inl rfl⟩
    · unfold fX11_boot
      rw [if_neg c1, if_pos c2]
    · unfold fX16_boot
      rw [if_neg c1, if_pos c2]
  obtain ⟨b, rfl, hb1, hb2⟩ := nI_pos_ex (x := a2) (a := 8) (b := 30) (by decide) (by decide) c1 c2
  obtain ⟨hv, hv01, hvA, hvM⟩ := isHost_same fu a1
  by_cases c3 : hv = 0
  · refine ⟨-1, X, X, ?_, ?_, Or.inl rfl⟩
    · unfold fX11_boot
      rw [if_neg c1, if_neg c2, hvM, b2_some, if_pos c3]
    · unfold fX16_boot
      rw [if_neg c1, if_neg c2, hvA, b2_some, if_pos c3]
  have e32 : (32 : Int32) - nI b = nI (32 - b) := nI_sub (x := 32) (by omega)
  have net : ((a3 >>> (nI (32 - b) &&& 31)) = (a1 >>> (nI (32 - b) &&& 31))) ↔ ((a1 ^^^ a3) &&& ((-1 : Int32) <<< (nI (32 - b) &&& 31))) = 0 := by
    rw [net_g (by omega), net_x (by omega)]
    exact ⟨fun y i h1 h2 => (y i h1 h2).symm, fun y i h1 h2 => (y i h1 h2).symm⟩
  by_cases c4 : ¬ ((a1 ^^^ a3) &&& ((-1 : Int32) <<< (nI (32 - b) &&& 31))) = 0
  · refine ⟨-2, X, X, ?_, ?_, Or.inl rfl⟩
    · unfold fX11_boot
      rw [if_neg c1, if_neg c2, hvM, b2_some, if_neg c3, e32, ob_some, if_neg c4]
    · unfold fX16_boot
      rw [if_neg c1, if_neg c2, hvA, b2_some, if_neg c3, e32, if_neg (fun y => c4 (net.mp y))]
  have c4 := Classical.not_not.mp c4
  by_cases c5 : a3 = a1
  · refine ⟨-2, X, X, ?_, ?_, Or.inl rfl⟩
    · unfold fX11_boot
      rw [if_neg c1, if_neg c2, hvM, b2_some, if_neg c3, e32, ob_some, if_pos c4, if_pos c5]
    · unfold fX16_boot
      rw [if_neg c1, if_neg c2, hvA, b2_some, if_neg c3, e32, if_pos (net.mpr c4), if_pos c5]
  by_cases c6 : ¬ (a4 &&& 256) = 0
  · refine ⟨-2, X, X, ?_, ?_, Or.inl rfl⟩
    · unfold fX11_boot
      rw [if_neg c1, if_neg c2, hvM, b2_some, if_neg c3, e32, ob_some, if_pos c4, if_neg c5, if_neg c6]
    · unfold fX16_boot
      rw [if_neg c1, if_neg c2, hvA, b2_some, if_neg c3, e32, if_pos (net.mpr c4), if_neg c5, if_pos (Classical.not_not.mp (fun y => c6 ((bit8 a4).mpr y)))]
  have c6 := Classical.not_not.mp c6
  have c6' := (bit8 a4).mp c6
  have isb : ∀ j, isB (mA X 325 j) := fun j => h.bm.2.2.2.2 325 j (rw_ok325 hR).2.2
  have him : im ≤ 65535 := h.ji.2.2.2.1
  obtain ⟨v, v1, v2, v3⟩ := x_isRight fu hfu hW h.ji
  rcases v2 with e | e
  · -- the image is not right
    subst e
    refine ⟨-3, X, X, ?_, ?_, Or.inl rfl⟩
    · unfold fX11_boot
      rw [if_neg c1, if_neg c2, hvM, b2_some, if_neg c3, e32, ob_some, if_pos c4, if_neg c5, if_pos c6, gR_ok o3, ob_some, xw_g704_300 hW, rc_ok (xw_ok301 hW), ob_some, v1, b2_some, if_pos rfl]
    · unfold fX16_boot
      rcases m_files fu hfu hR isb h.sz him with ⟨F, al, -⟩ | ⟨-, e2⟩
      · exact absurd (v3.mpr ⟨F, al⟩) (by decide)
      · rw [if_neg c1, if_neg c2, hvA, b2_some, if_neg c3, e32, if_pos (net.mpr c4), if_neg c5, if_neg c6', rc_ok o, ob_some, e2, b2_some, if_neg (by decide)]
  subst e
  obtain ⟨F, al⟩ := v3.mp rfl
  obtain ⟨z1, z2, z3, z4, z5, -⟩ := h.ji
  have hX := h.xr
  obtain ⟨_, _, _, _, -, -, -, -, -, -, -, -, -, x6, x7, x8, x9, -⟩ := hX
  obtain ⟨ek', n, Xk, e1, kp⟩ := x_keepE (M := X) (B := mA X 325) fu n450 (xw_ok301 hW) z1 z2 z3 z4 (fun j hj => (z5 j hj).symm) al.1 al.2.1 al.2.2.2.2.1 h.ge h.oe h.l2 h.ie (by omega) (by omega)
  have T := kp.2.2.2.2.2.2.1
  have N := kp.2.2.2.2.2.2.2.1
  have hWk : XW Xk := XW_tr T hW n450
  have hSk : XS Xk := XS_tr T N hW h.xs
  obtain ⟨p12, p13, p14⟩ := kp.2.2.2.2.2.2.2.2.2.2.2
  have hXk : XRR KN' KS' Xk := XRR_tr T h.xr (by omega) (by rcases p12 with ⟨_, y⟩ | ⟨_, y⟩ <;> omega) k3 k4
  obtain ⟨_, _, _, _, -, -, -, -, -, -, -, row1, -⟩ := hXk
  obtain ⟨M1, M2, M3, M4, M5, r1, r2, r3, r4, r5, ⟨W1, W2, W3, W5⟩, rs⟩ := x_anew (M := Xk) fu (by omega) hWk hSk (fun i c hc => (rowN_at row1 hc).2) a1 ((-1 : Int32) <<< (nI (32 - b) &&& 31)) a3 (a4 &&& 65535) a5
  have ecl : fX11_boot fu 300 a1 (nI b) a3 a4 a5 X = some (nI F, M5) := by
    unfold fX11_boot
    rw [if_neg c1, if_neg c2, hvM, b2_some, if_neg c3, e32, ob_some, if_pos c4, if_neg c5, if_pos c6, gR_ok o3, ob_some, xw_g704_300 hW, rc_ok (xw_ok301 hW), ob_some, v1, b2_some, if_neg (by decide), gR_ok o3, ob_some, xw_g704_300 hW, rc_ok (xw_ok301 hW), ob_some, e1, ob_some]
    rw [gR_ok (xw_ok300 hWk), ob_some, xw_g705_300 hWk, rc_ok (xw_ok304 hWk), ob_some, r1, ob_some]
    rw [gR_ok (xw_ok300 W1), ob_some, xw_g706_300 W1, rc_ok (xw_ok307 W1), ob_some, r2, ob_some]
    rw [gR_ok (xw_ok300 W2), ob_some, xw_g707_300 W2, rc_ok (xw_ok314 W2), ob_some, r3, ob_some]
    rw [gR_ok (xw_ok300 W3), ob_some, xw_g708_300 W3, rc_ok (xw_ok317 W3), ob_some, r4, ob_some, r5, ob_some]
    rw [gR_ok (xw_ok300 W5), ob_some, xw_g704_300 W5, gI_ok (xw_ok301 W5), ob_some, rs.2.2.2.2.2.2.2.2.2.2.2, kp.2.2.2.2.2.1]
  obtain ⟨s1, bm1⟩ := oX11_boot fu 300 a1 (nI b) a3 a4 a5 X h.bm (by unfold RX; omega) ecl
  have s1 : Sm RX X M5 := s1
  have bm1 : Bd RX TX M5 := bm1
  have bA1 := Bd_sx h.ba s1 bm1
  have hR5 : RW M5 := RW_sx hR (SmR_of s1 n450)
  have nRX : ∀ a, 323 ≤ a → a < 450 → ¬ RX a := fun a h1 h2 => by unfold RX; omega
  have F5 : ∀ f, mF M5 f 323 = mF X f 323 := fun f => s1.1 f 323 (nRX _ (by decide) (by decide))
  have A5 : mA M5 325 = mA X 325 := funext (fun i => s1.2.2.1 325 i (nRX _ (by decide) (by decide)))
  have o5 := rw_ok323 hR5
  rcases m_files (A := M5) (im := im) fu hfu hR5 (by rw [A5]; exact isb) (by rw [F5]; exact h.sz) him with ⟨F', al', ef⟩ | ⟨no, -⟩
  · have eF : F' = F := by
      rw [A5] at al'
      have y1 := al'.2.2.2.2.1
      have y2 := al.2.2.2.2.1
      omega
    subst eF
    generalize hA0 : sF (sF (sF (sF (sF (sF M5 1029 323 a1) 1030 323 (nI b)) 1031 323 a3) 1032 323 (a4 &&& 65535)) 1033 323 a5) 1035 323 (nI F') = A0
    have R0 : RW A0 := by subst hA0; exact hR5
    have E0 : mS A0 = mS M5 ∧ mG A0 = mG M5 ∧ mB A0 = mB M5 ∧ mA A0 = mA M5 := by subst hA0; exact ⟨rfl, rfl, rfl, rfl⟩
    have fA : ∀ f, ¬ (1029 ≤ f ∧ f ≤ 1035) → mF A0 f 323 = mF M5 f 323 := fun f hf => by
      subst hA0
      rw [mF_sF, if_neg (by omega), mF_sF, if_neg (by omega), mF_sF, if_neg (by omega), mF_sF, if_neg (by omega), mF_sF, if_neg (by omega), mF_sF, if_neg (by omega)]
    obtain ⟨X2, b1, bt2⟩ := b_L110 (A := A0) (F := F') fu (by omega) R0 (by rw [E0.2.2.2, A5]; exact isb) al.1 fu 0 A0 ⟨rfl, rfl, rfl, rfl, fun _ _ => rfl, fun i j' hi => by omega, fun j' hj => by omega, fun i hi => by omega⟩ (by omega) (by have := al.1; omega)
    have erf : fX16_boot fu 323 a1 (nI b) a3 a4 a5 M5 = some (nI F', X2) := by
      unfold fX16_boot
      rw [if_neg c1, if_neg c2, hvA, b2_some, if_neg c3, e32, if_pos (net.mpr c4), if_neg c5, if_neg c6', rc_ok o5, ob_some, ef, b2_some, if_pos (nI_0le (by have := al.1; omega))]
      rw [pF_ok o5, ob_some, pF_ok (show okA (sF M5 1029 323 a1) 16 323 from o5), ob_some, pF_ok (show okA (sF (sF M5 1029 323 a1) 1030 323 (nI b)) 16 323 from o5), ob_some, pF_ok (show okA (sF (sF (sF M5 1029 323 a1) 1030 323 (nI b)) 1031 323 a3) 16 323 from o5), ob_some, pF_ok (show okA (sF (sF (sF (sF M5 1029 323 a1) 1030 323 (nI b)) 1031 323 a3) 1032 323 (a4 &&& 65535)) 16 323 from o5), ob_some, pF_ok (show okA (sF (sF (sF (sF (sF M5 1029 323 a1) 1030 323 (nI b)) 1031 323 a3) 1032 323 (a4 &&& 65535)) 1033 323 a5) 16 323 from o5), ob_some, hA0]
      exact b1
    obtain ⟨s2, ba2⟩ := oX16_boot fu 323 a1 (nI b) a3 a4 a5 M5 bA1 (by unfold RM; omega) erf
    have s2 : Sm RM M5 X2 := s2
    have ba2 : Bd RM TM X2 := ba2
    refine ⟨nI F', M5, X2, ecl, erf, Or.inr ⟨F', ek', JJ_first (A0 := A0) h h0 al kp rs hb1 hb2 bt2 E0 ⟨?_, ?_, ?_, ?_, ?_, ?_, ?_, ?_⟩ s1 s2 ba2 (Bd_sm bm1 s2 ba2) (RW_eq R0 bt2.1.1 bt2.1.2.1 bt2.1.2.2) W5 k1 k2 k3 k4⟩⟩
    · subst hA0
      repeat (first | rw [mF_sF, if_pos ⟨rfl, rfl⟩] | rw [mF_sF, if_neg (by omega)])
    · subst hA0
      repeat (first | rw [mF_sF, if_pos ⟨rfl, rfl⟩] | rw [mF_sF, if_neg (by omega)])
    · subst hA0
      repeat (first | rw [mF_sF, if_pos ⟨rfl, rfl⟩] | rw [mF_sF, if_neg (by omega)])
    · subst hA0
      repeat (first | rw [mF_sF, if_pos ⟨rfl, rfl⟩] | rw [mF_sF, if_neg (by omega)])
    · subst hA0
      repeat (first | rw [mF_sF, if_pos ⟨rfl, rfl⟩] | rw [mF_sF, if_neg (by omega)])
    · subst hA0
      repeat (first | rw [mF_sF, if_pos ⟨rfl, rfl⟩] | rw [mF_sF, if_neg (by omega)])
    · rw [fA 1025 (by omega), F5]; exact h.ta
    · rw [fA 1027 (by omega), F5]; exact h.sz
  · rw [A5] at no
    exact absurd al (no F)
end Boot2
