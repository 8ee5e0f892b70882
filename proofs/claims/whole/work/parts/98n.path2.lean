/-! ===== part 98n: the path's loop, in both ===== -/
theorem hx_or : ∀ x, x < 16 → ∀ y, y < 16 → ((nI x <<< ((4 : Int32) &&& 31)) ||| nI y = nI (16 * x + y)) ∧ (((16 : Int32) * nI x) + nI y = nI (16 * x + y)) := by decide +kernel
section Path2
variable {H : Nat → Nat} {n b : Nat}
/-- what a reading of a path gives, in both -/
def PO (A M : Mm) (ra rx : Option (Int32 × Mm)) : Prop := ∃ A' M', GA A A' ∧ GM M M' ∧ By A' ∧ By M' ∧ ((ra = some (0, A') ∧ rx = some (0, M')) ∨ (ra = some (1, A') ∧ rx = some (1, M') ∧ ∃ L P, 1 ≤ L ∧ L ≤ 5000 ∧ PT A' M' L L P))
theorem PO.tr {A M A1 M1 : Mm} {ra rx : Option (Int32 × Mm)} (gA : GA A A1) (gM : GM M M1) (h : PO A1 M1 ra rx) : PO A M ra rx := by
  obtain ⟨A', M', h1, h2, h3⟩ := h
  exact ⟨A', M', gA.tr h1, gM.tr h2, h3⟩
theorem sp_pend (fu : Nat) (hfu : 5000 ≤ fu) {A M : Mm} {L last : Nat} {P : Nat → Nat} (hR : RW A) (hB : By A) (hW : XW M) (hBM : By M) (hp : PT A M L L P) (h1 : 1 ≤ L) (h2 : L ≤ 4096) (hl : last = P (L - 1)) : PO A M (fX16_unfolded_L152 fu 323 A) (fX7_readPath_L149 fu 319 (nI last) M) := by
  have o := rw_ok323 hR
  obtain ⟨p1, p2, p3⟩ := hp.2.2.1 (L - 1) (by omega)
  unfold fX16_unfolded_L152 fX7_readPath_L149
  rw [gR_ok o, ob_some, rw_g1082_323 hR, gI_ok o, ob_some, hp.1, show nI L - (1 : Int32) = nI (L - 1) from nI_sub (y := 1) h1, gA_ok (rw_ok341 hR) (by rw [rw_ln341 hR]; omega) (by omega), ob_some, p3, hl]
  by_cases q : P (L - 1) = 47
  · have q' : nI (P (L - 1)) = (47 : Int32) := by rw [q]; rfl
    rw [if_pos q', if_pos q']
    obtain ⟨A', M', P', r1, r2, r3, r4, r5, r6, r7, r8⟩ := sp_index fu 10 0 L P A M (fu - 1) (fu - 1) (by omega) (by omega) (by omega) hR hB hW hBM hp (by omega)
    rw [show fu - 1 + 1 = fu by omega] at r1 r2
    exact ⟨A', M', r3, r4, r5, r6, Or.inr ⟨r1, r2, L + 10, P', by omega, by omega, r7⟩⟩
  · have q' : ¬ nI (P (L - 1)) = (47 : Int32) := fun e => q ((nI_eq (b := 47) (by omega) (by decide)).mp e)
    rw [if_neg q', if_neg q', rN1, rN1]
    exact ⟨A, M, GA.rf, GM.rf, hB, hBM, Or.inr ⟨rfl, rfl, L, P, h1, by omega, hp⟩⟩
theorem sp_ploop (fu : Nat) (hfu : 5000 ≤ fu) (hbn : b ≤ n) : ∀ (d i L last : Nat) (P : Nat → Nat) (A M : Mm) (m m2 : Nat), b ≤ i + d → i ≤ b → d ≤ m → d ≤ m2 → RW A → By A → XW M → By M → HD H n A M → (mF A 1081 323) = nI b → (mF M 456 319) = nI b → PT A M L L P → L ≤ i → (1 ≤ L ∨ (i < b ∧ H i ≠ 63)) → (1 ≤ L → last = P (L - 1)) → (∀ j, i ≤ j → j < b → 33 ≤ H j ∧ H j ≤ 126) →
    PO A M (fX16_unfolded_L10 fu (m + 1) 323 (nI i) A) (fX7_readPath_L12 fu (m2 + 1) 319 (nI last) (nI i) M) := by
  intro d
  induction d with
  | zero =>
    intro i L last P A M m m2 d1 d2 d3 d4 hR hB hW hBM h hE hE2 hp hL1 hL2 hl hc
    have hn := h.1
    have e : i = b := by omega
    subst e
    rw [fX16_unfolded_L10, gI_ok (rw_ok323 hR), ob_some, hE, if_pos (nI_le (Nat.le_refl _) (by omega)), fX7_readPath_L12, gI_ok (xw_ok319 hW), ob_some, hE2, if_pos (nI_le (Nat.le_refl _) (by omega))]
    have h1 : 1 ≤ L := hL2.elim id (fun e => by omega)
    exact sp_pend fu hfu hR hB hW hBM hp h1 (by omega) (hl h1)
  | succ d ih =>
    intro i L last P A M m m2 d1 d2 d3 d4 hR hB hW hBM h hE hE2 hp hL1 hL2 hl hc
    have hn := h.1
    have o := rw_ok323 hR
    have o7 := xw_ok319 hW
    have g5 := xw_g450_319 hW
    have hb : ∀ i, H i < 256 := h.2.1
    by_cases q0 : i = b
    · subst q0
      rw [fX16_unfolded_L10, gI_ok o, ob_some, hE, if_pos (nI_le (Nat.le_refl _) (by omega)), fX7_readPath_L12, gI_ok o7, ob_some, hE2, if_pos (nI_le (Nat.le_refl _) (by omega))]
      have h1 : 1 ≤ L := hL2.elim id (fun e => by omega)
      exact sp_pend fu hfu hR hB hW hBM hp h1 (by omega) (hl h1)
    obtain ⟨v, v1, v2⟩ := m_hd hR hB h (i := i) (by omega)
    have hx := hb i
    rw [fX16_unfolded_L10, gI_ok o, ob_some, hE, if_neg (nI_ge (by omega) (by omega)), gR_ok o, ob_some, rw_g1065_323 hR, v1, ob_some, fX7_readPath_L12, gI_ok o7, ob_some, hE2, if_neg (nI_ge (by omega) (by omega)), gR_ok o7, ob_some, g5, x_oneH fu hW h (by omega), b2_some]
    by_cases q1 : H i = 63
    · rw [if_pos (show v = (63 : Int32) from (v2 63 (by decide)).mpr q1), if_pos (show nI (H i) = (63 : Int32) by rw [q1]; rfl)]
      have h1 : 1 ≤ L := hL2.elim id (fun e => absurd q1 e.2)
      exact sp_pend fu hfu hR hB hW hBM hp h1 (by omega) (hl h1)
    rw [if_neg (show ¬ v = (63 : Int32) from fun e => q1 ((v2 63 (by decide)).mp e)), if_neg (show ¬ nI (H i) = (63 : Int32) from fun e => q1 ((nI_eq (b := 63) (by omega) (by decide)).mp e)), rc_ok o, ob_some, m_headAt fu hR h (by omega), b2_some, gR_ok o7, ob_some, g5, x_oneH fu hW h (by omega), b2_some]
    -- one code is added and the loop goes on at i'
    have go : ∀ (c i' : Nat), 33 ≤ c → c ≤ 126 → i < i' → i' ≤ b → PO A M (fX16_unfolded_L128 fu (fun b0 b1 M => fX16_unfolded_L10 fu m b0 b1 M) 323 (nI i') (nI c) A) ((fX7_addToPath fu 319 (nI c) M).bind fun M2 => fX7_readPath_L12 fu m2 319 (nI c) (nI i') M2) := fun c i' c1 c2 c3 c4 => by
      obtain ⟨A1, M1, r1, r2, r3, r4, r5, r6, r7⟩ := sp_add fu hR hB hW hBM hp (v := c) (by omega) (by omega) (by omega) (fun b0 b1 M => fX16_unfolded_L10 fu m b0 b1 M) (nI i')
      rw [r1, r2, ob_some]
      refine PO.tr r3 r4 ?_
      have := ih i' (L + 1) c _ A1 M1 (m - 1) (m2 - 1) (by omega) c4 (by omega) (by omega) (r3.fq.rW hR) r5 (r4.fq.xW hW) r6 (h.gg r3 r4) ((r3.2.2.2.1 _ _ (by omega)).trans hE) ((r4.2.2.2.1 _ _ (by omega)).trans hE2) r7 (by omega) (Or.inl (by omega)) (fun _ => by rw [if_pos (by omega)]) (fun j j1 j2 => hc j (by omega) j2)
      rw [show m - 1 + 1 = m by omega, show m2 - 1 + 1 = m2 by omega] at this
      exact this
    by_cases q2 : H i = 37
    rotate_left
    · rw [if_neg (show ¬ nI (H i) = (37 : Int32) from fun e => q2 ((nI_eq (b := 37) (by omega) (by decide)).mp e)), if_neg (show ¬ nI (H i) = (37 : Int32) from fun e => q2 ((nI_eq (b := 37) (by omega) (by decide)).mp e))]
      unfold fX7_readPath_L138
      rw [nI_1, rc_ok o7, ob_some]
      have := hc i (Nat.le_refl _) (by omega)
      exact go (H i) (i + 1) (by omega) (by omega) (by omega) (by omega)
    -- a sign in hexadecimal
    rw [if_pos (show nI (H i) = (37 : Int32) by rw [q2]; rfl), if_pos (show nI (H i) = (37 : Int32) by rw [q2]; rfl), gI_ok o, ob_some, hE, gI_ok o7, ob_some, hE2, nI_1]
    have bad : PO A M (some (0, A)) (some (0, M)) := ⟨A, M, GA.rf, GM.rf, hB, hBM, Or.inl ⟨rfl, rfl⟩⟩
    have L64 : ∀ s : Int32, (s = -1 ∨ ∃ x, x < 16 ∧ s = nI x) → (i + 1 < b ∨ s = -1) → PO A M (fX16_unfolded_L64 fu (fun b0 b1 M => fX16_unfolded_L10 fu m b0 b1 M) 323 (nI (i + 1)) s A) (fX7_readPath_L75 fu (fun b0 b1 b2 M => fX7_readPath_L12 fu m2 b0 b1 b2 M) 319 (nI i) s M) := fun s hs hs2 => by
      have L89 : ∀ s2 : Int32, (s2 = -1 ∨ ∃ x, x < 16 ∧ s2 = nI x) → (i + 2 < b ∨ s2 = -1) → PO A M (fX16_unfolded_L89 fu (fun b0 b1 M => fX16_unfolded_L10 fu m b0 b1 M) 323 (nI (i + 1)) s s2 A) (fX7_readPath_L103 fu (fun b0 b1 b2 M => fX7_readPath_L12 fu m2 b0 b1 b2 M) 319 (nI i) s s2 M) := fun s2 hs3 hs4 => by
        unfold fX16_unfolded_L89 fX7_readPath_L103
        rcases hs with e | ⟨x, x1, x2⟩
        · rw [if_pos (by rw [e]; decide), if_pos (by rw [e]; decide), rN0, rN0]
          exact bad
        · rw [x2, if_neg (nI_pos (by omega)), if_neg (nI_pos (by omega))]
          rcases hs3 with e | ⟨y, y1, y2⟩
          · rw [if_neg (by rw [e]; decide), if_pos (by rw [e]; decide), rN0, rN0]
            exact bad
          · have hy : i + 2 < b := hs4.elim id (fun e => by
              rw [y2] at e
              exact absurd (show nI y < 0 by rw [e]; decide) (nI_pos (by omega)))
            obtain ⟨w1, w2⟩ := hx_or x x1 y y1
            rw [y2, if_pos (show 0 ≤ nI y from nI_le (a := 0) (by omega) (by omega)), if_neg (nI_pos (by omega)), w1, w2]
            by_cases z1 : 16 * x + y < 33
            · rw [if_pos (show nI (16 * x + y) < (33 : Int32) from nI_lt (b := 33) z1 (by decide)), if_pos (show nI (16 * x + y) < (33 : Int32) from nI_lt (b := 33) z1 (by decide)), rN0, rN0]
              exact bad
            · rw [if_neg (show ¬ nI (16 * x + y) < (33 : Int32) from nI_nlt (b := 33) (by omega) (by omega)), if_neg (show ¬ nI (16 * x + y) < (33 : Int32) from nI_nlt (b := 33) (by omega) (by omega))]
              by_cases z2 : 16 * x + y ≤ 126
              · rw [if_pos (show nI (16 * x + y) ≤ (126 : Int32) from nI_le (b := 126) z2 (by decide)), if_pos (show nI (16 * x + y) ≤ (126 : Int32) from nI_le (b := 126) z2 (by decide))]
                unfold fX7_readPath_L138
                rw [show nI (i + 1) + (2 : Int32) = nI (i + 3) from nI_add (i + 1) 2, show nI i + (2 : Int32) = nI (i + 2) from nI_add i 2, nI_1, rc_ok o7, ob_some]
                exact go (16 * x + y) (i + 3) (by omega) z2 (by omega) (by omega)
              · rw [if_neg (show ¬ nI (16 * x + y) ≤ (126 : Int32) from nI_ge (a := 126) (by omega) (by omega)), if_neg (show ¬ nI (16 * x + y) ≤ (126 : Int32) from nI_ge (a := 126) (by omega) (by omega)), rN0, rN0]
                exact bad
      unfold fX16_unfolded_L64 fX7_readPath_L75
      rw [gI_ok o, ob_some, hE, gI_ok o7, ob_some, hE2, nI_1, show nI i + (2 : Int32) = nI (i + 1 + 1) from nI_add i 2]
      by_cases z : b ≤ i + 1 + 1
      · rw [if_pos (nI_le z (by omega)), if_pos (nI_le z (by omega))]
        exact L89 (-1) (Or.inl rfl) (Or.inr rfl)
      · rw [if_neg (nI_ge (by omega) (by omega)), if_neg (nI_ge (by omega) (by omega)), rc_ok o, ob_some, m_headAt fu hR h (by omega), b2_some, m_hex fu (hb _), b2_some, gR_ok o7, ob_some, g5, x_oneH fu hW h (by omega), b2_some, x_hex fu (hb _), b2_some]
        exact L89 _ (hxI_or _) (Or.inl (by omega))
    by_cases z : b ≤ i + 1
    · rw [if_pos (nI_le z (by omega)), if_pos (nI_le z (by omega))]
      exact L64 (-1) (Or.inl rfl) (Or.inr rfl)
    · rw [if_neg (nI_ge (by omega) (by omega)), if_neg (nI_ge (by omega) (by omega)), rc_ok o, ob_some, m_headAt fu hR h (by omega), b2_some, m_hex fu (hb _), b2_some, gR_ok o7, ob_some, g5, x_oneH fu hW h (by omega), b2_some, x_hex fu (hb _), b2_some]
      exact L64 _ (hxI_or _) (Or.inl (by omega))
/-- the path is read, in both -/
theorem sp_path (fu : Nat) (hfu : 5000 ≤ fu) {A M : Mm} {a to : Nat} (hR : RW A) (hB : By A) (hW : XW M) (hBM : By M) (h : HD H n A M) (hr : RLok H to a b) (hto : to < n) (e1 : (mF A 1080 323) = nI (a + 1)) (e2 : (mF A 1081 323) = nI b) (e3 : (mF M 455 319) = nI (a + 1)) (e4 : (mF M 456 319) = nI b) : PO A M (fX16_unfolded fu 323 A) (fX7_readPath fu 319 M) := by
  have hn := h.1
  have o := rw_ok323 hR
  have o7 := xw_ok319 hW
  obtain ⟨r1, r2, r3, r4, r5, r6, r7, r8, r9, r10⟩ := hr
  unfold fX16_unfolded fX7_readPath
  rw [pF_ok o, ob_some, gI_ok (by exact o), ob_some, pF_ok o7, ob_some, gI_ok (by exact o7), ob_some, show mF (sF A 1083 323 0) 1080 323 = nI (a + 1) from (by rw [mF_sF, if_neg (by omega)]; exact e1), show mF (sF M 452 319 0) 455 319 = nI (a + 1) from (by rw [mF_sF, if_neg (by omega)]; exact e3)]
  refine PO.tr (GA.s 0) (GM.s 0) ?_
  have := sp_ploop fu hfu (n := n) (b := b) (H := H) (by omega) (b - (a + 1)) (a + 1) 0 0 (fun _ => 0) (sF A 1083 323 0) (sF M 452 319 0) (fu - 1) (fu - 1) (by omega) (by omega) (by omega) (by omega) hR hB hW hBM h (by rw [mF_sF, if_neg (by omega)]; exact e2) (by rw [mF_sF, if_neg (by omega)]; exact e4) ⟨by rw [mF_sF, if_pos ⟨rfl, rfl⟩]; rfl, by rw [mF_sF, if_pos ⟨rfl, rfl⟩]; rfl, fun j hj => by omega, fun j hj => by omega⟩ (by omega) (Or.inr ⟨by omega, by rw [r7]; decide⟩) (fun e => by omega) (fun j j1 j2 => r8 j (by omega) j2)
  rw [show fu - 1 + 1 = fu by omega] at this
  exact this
end Path2
