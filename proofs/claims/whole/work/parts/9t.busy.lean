/-! ===== part 9t: is anything still to be sent, in both ===== -/
section Busy
variable {A M : Mm} {KN KS t T im ig F ek ty nw : Nat}
theorem lf_pos {k nw' t' im' : Nat} {b0 : Int32} {v : Nat → Nat} (hI : CI A k nw' t' im' b0 v) : (0 < nI (lfN v) ↔ ¬ lfN v = 0) ∧ (nI (lfN v) ≤ 0 ↔ lfN v = 0) := by
  have h1 := hI.hl1
  have h2 := hI.bl1
  have h3 := hI.cl1
  have b : lfN v < 2 ^ 31 := by unfold lfN; omega
  constructor
  · constructor
    · intro z y
      rw [y] at z
      exact absurd z (by decide)
    · intro z
      exact nI_lt (a := 0) (by omega) b
  · constructor
    · intro z
      by_cases y : lfN v = 0
      · exact y
      · exact absurd z (nI_ge (a := 0) (by omega) b)
    · intro y
      rw [y]
      decide
theorem x_busy1 (fu : Nat) {k c hd ft : Nat} {b0 : Int32} {v : Nat → Nat} (h : TK A M KN KS t T im ig k c nw hd ft b0 v) : fX1_isBusy fu c M = some (if lfN v = 0 ∧ (v 1) = (v 3) then 0 else 1, M) := by
  have hI := h.ci
  have c1 := h.cn.1
  have m1 := hI.mL
  have h1 := hI.hl1
  have h2 := hI.bl1
  have h3 := hI.cl1
  have ua := hI.ua
  have am := hI.am
  have um : (mF M 68 c) = (mF M 70 c) ↔ (v 1) = (v 3) := by rw [← h.ce.una, ← h.ce.max, hI.una, hI.max]; exact ⟨fun e => b0_inj (by omega) (by omega) e, fun e => by rw [e]⟩
  obtain ⟨p1, -⟩ := lf_pos hI
  unfold fX1_isBusy
  rw [rc_ok c1, ob_some, x_left fu c1 h.ce hI, b2_some]
  by_cases ql : lfN v = 0
  · rw [if_neg (fun z => (p1.mp z) ql), gI_ok c1, ob_some, gI_ok c1, ob_some]
    by_cases qu : (v 1) = (v 3)
    · rw [if_pos (um.mpr qu), rN0, if_pos ⟨ql, qu⟩]
    · rw [if_neg (fun z => qu (um.mp z)), rN1, if_neg (fun z => qu z.2)]
  · rw [if_pos (p1.mpr ql), rN1, if_neg (fun z => ql z.1)]
theorem sp_busy (fu : Nat) (hfu : 100 ≤ fu) (h : JJ A M KN KS t T im ig F ek ty nw) (a1 a2 : Int32) : ∃ b : Int32, (b = 0 ∨ b = 1) ∧ fX9_isBusy fu 317 M = some (b, M) ∧ fX16_damage_L16 fu fu 323 a1 a2 0 A = if b = 0 then fX16_damage_L79 fu 323 a1 a2 A else some (0, A) := by
  have hR := h.rw'
  have hW := h.xw
  have o := rw_ok323 hR
  have o7 := xw_ok317 hW
  have L : ∀ (d j m n : Nat), j + d = 16 → d ≤ m → d ≤ n → ∃ b : Int32, (b = 0 ∨ b = 1) ∧ fX9_isBusy_L2 fu (m + 1) 317 (nI j) M = some (b, M) ∧ fX16_damage_L16 fu (n + 1) 323 a1 a2 (nI j) A = if b = 0 then fX16_damage_L79 fu 323 a1 a2 A else some (0, A) := by
    intro d
    induction d with
    | zero =>
      intro j m n h1 _ _
      have : j = 16 := by omega
      subst this
      refine ⟨0, Or.inl rfl, ?_, ?_⟩
      · rw [fX9_isBusy_L2, if_pos (show (16 : Int32) ≤ nI 16 by decide), rN0]
      · rw [fX16_damage_L16, if_pos (show (16 : Int32) ≤ nI 16 by decide), if_pos rfl]
    | succ d ih =>
      intro j m n h1 h2 h3
      have hj : j < 16 := by omega
      have c16 : ¬ (16 : Int32) ≤ nI j := nI_ge (b := 16) hj (by decide)
      have hA := rw_cnO hR j hj
      obtain ⟨b, b1, b2', b3⟩ := ih (j + 1) (m - 1) (n - 1) (by omega) (by omega) (by omega)
      rw [show m - 1 + 1 = m by omega] at b2'
      rw [show n - 1 + 1 = n by omega] at b3
      have x0 : fX9_isBusy_L2 fu (m + 1) 317 (nI j) M = b2 (fX9_connectionAt fu 317 (nI j) M) fun v3 M2 => if v3 = none then fX9_isBusy_L2 fu m 317 (nI j + 1) M2 else ((rc M2 1 v3).bind fun q4 => b2 (fX1_isBusy fu q4 M2) fun v6 M5 => if v6 = 0 then fX9_isBusy_L2 fu m 317 (nI j + 1) M5 else rN .boolean (1 : Int32) M5) := by
        rw [fX9_isBusy_L2, if_neg c16, rc_ok o7, ob_some]
        rfl
      have m0 : fX16_damage_L16 fu (n + 1) 323 a1 a2 (nI j) A = if (mF A 768 (342 + 4 * j)) = 0 then fX16_damage_L16 fu n 323 a1 a2 (nI j + 1) A else (if (mF A 772 (342 + 4 * j)) = (mF A 774 (342 + 4 * j)) then (b2 (fX12_left fu (342 + 4 * j) (mF A 773 (342 + 4 * j)) A) fun v10 M9 => if v10 ≤ 0 then fX16_damage_L16 fu n 323 a1 a2 (nI j + 1) M9 else rN .boolean (0 : Int32) M9) else rN .boolean (0 : Int32) A) := by
        rw [fX16_damage_L16, if_neg c16, gI_ok o, ob_some, h.ts.bo, if_neg (by decide), gR_ok o, ob_some, rw_g1055_323 hR, gB_ok (rw_ok339 hR) (by rw [rw_ln339 hR]; omega) (by omega), ob_some, rw_cnB hR j hj]
        simp only [gI_ok hA, rc_ok hA, ob_some]
        rfl
      rw [x0, m0]
      rcases x_cnAt fu h hj with ⟨z1, z2⟩ | ⟨c, hd, ft, b0, v, y1, y2, y3, y4⟩
      · exact ⟨b, b1, by rw [z2, b2_some, if_pos rfl, nI_1]; exact b2', by rw [if_pos z1, nI_1]; exact b3⟩
      · have hI := y3.ci
        have m1 := hI.mL
        have k1 := hI.hl1
        have k2 := hI.bl1
        have k3 := hI.cl1
        have ua := hI.ua
        have am := hI.am
        have um : (mF A 772 (342 + 4 * j)) = (mF A 774 (342 + 4 * j)) ↔ (v 1) = (v 3) := by rw [hI.una, hI.max]; exact ⟨fun e => b0_inj (by omega) (by omega) e, fun e => by rw [e]⟩
        obtain ⟨-, p2⟩ := lf_pos hI
        rw [y4, b2_some, if_neg (by simp), rc_ok y3.cn.1, ob_some, x_busy1 fu y3, b2_some, if_neg y2]
        by_cases q : lfN v = 0 ∧ (v 1) = (v 3)
        · refine ⟨b, b1, ?_, ?_⟩
          · rw [if_pos q, if_pos rfl, nI_1]; exact b2'
          · rw [if_pos (um.mpr q.2), m_left fu hR hj hI, b2_some, if_pos (p2.mpr q.1), nI_1]; exact b3
        · refine ⟨1, Or.inr rfl, ?_, ?_⟩
          · rw [if_neg q, if_neg (by decide), rN1]
          · rw [if_neg (show ¬ (1 : Int32) = 0 by decide)]
            by_cases qu : (v 1) = (v 3)
            · rw [if_pos (um.mpr qu), m_left fu hR hj hI, b2_some, if_neg (fun z => q ⟨p2.mp z, qu⟩), rN0]
            · rw [if_neg (fun z => qu (um.mp z)), rN0]
  obtain ⟨b, b1, b2', b3⟩ := L 16 0 (fu - 1) (fu - 1) (by decide) (by omega) (by omega)
  rw [show fu - 1 + 1 = fu by omega] at b2' b3
  exact ⟨b, b1, b2', b3⟩
end Busy
