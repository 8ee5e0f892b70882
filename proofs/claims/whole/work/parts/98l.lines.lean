/-! ===== part 98l: the lines of a head, in both ===== -/
theorem FF.by' {S : Nat → Prop} {o : Nat} {A A' : Mm} (h : FF S o A A') (g : By A) : By A' := by
  unfold By
  rw [h.1, h.2.2.2.1]
  exact g
/-- where a line ends, its CR left out -/
def toN (H : Nat → Nat) (s e : Nat) : Nat := if s < e ∧ H (e - 1) = 13 then e - 1 else e
theorem toN_le {H : Nat → Nat} {s e : Nat} (h : s ≤ e) : s ≤ toN H s e ∧ toN H s e ≤ e := by
  unfold toN
  split <;> omega
theorem toN_32 {H : Nat → Nat} {s e : Nat} (h : H e = 10) : H (toN H s e) ≠ 32 := by
  unfold toN
  split
  · rename_i q
    rw [q.2]; decide
  · rw [h]; decide
section Lines
variable {A M : Mm} {H : Nat → Nat} {n : Nat}
theorem m_shown (fu : Nat) (hR : RW A) (hB : By A) (h : HD H n A M) {s e : Nat} (h1 : s ≤ e) (h2 : e < n) : fX16_shown fu 323 (nI s) (nI e) A = some (nI (toN H s e), A) := by
  have hn := h.1
  unfold fX16_shown toN
  by_cases q : s < e
  · obtain ⟨v, v1, v2⟩ := m_hd hR hB h (i := e - 1) (by omega)
    rw [if_neg (nI_ge q (by omega)), gR_ok (rw_ok323 hR), ob_some, rw_g1065_323 hR, show nI e - (1 : Int32) = nI (e - 1) from nI_sub (y := 1) (by omega), v1, ob_some]
    by_cases q2 : H (e - 1) = 13
    · rw [if_pos (show v = (13 : Int32) from (v2 13 (by decide)).mpr q2), if_pos ⟨q, q2⟩]
    · rw [if_neg (show ¬ v = (13 : Int32) from fun z => q2 ((v2 13 (by decide)).mp z)), if_neg (fun z => q2 z.2)]
  · rw [if_pos (nI_le (by omega) (by omega)), if_neg (fun z => q z.1)]
theorem x_lineEnd (fu : Nat) (hW : XW M) (h : HD H n A M) {s e : Nat} (h1 : s ≤ e) (h2 : e < n) : fX7_lineEnd fu 319 (nI s) (nI e) M = some (nI (toN H s e), M) := by
  have hn := h.1
  have hb := h.2.1 (e - 1)
  unfold fX7_lineEnd toN
  by_cases q : s < e
  · rw [if_neg (nI_ge q (by omega)), gR_ok (xw_ok319 hW), ob_some, xw_g450_319 hW, show nI e - (1 : Int32) = nI (e - 1) from nI_sub (y := 1) (by omega), x_oneH fu hW h (by omega), b2_some]
    by_cases q2 : H (e - 1) = 13
    · rw [if_pos (show nI (H (e - 1)) = (13 : Int32) by rw [q2]; rfl), if_pos ⟨q, q2⟩]
    · rw [if_neg (show ¬ nI (H (e - 1)) = (13 : Int32) from fun z => q2 ((nI_eq (b := 13) (by omega) (by decide)).mp z)), if_neg (fun z => q2 z.2)]
  · rw [if_pos (nI_le (by omega) (by omega)), if_neg (fun z => q z.1)]
theorem m_lineEnd (fu : Nat) (hfu : 5000 ≤ fu) (hR : RW A) (hB : By A) (h : HD H n A M) {s e : Nat} (h1 : s ≤ e) (h2 : e < n) (h3 : ∀ i, s ≤ i → i < e → H i ≠ 10) (h4 : H e = 10) : fX16_lineEnd fu 323 (nI s) A = some (nI e, A) := by
  have hn := h.1
  have o := rw_ok323 hR
  unfold fX16_lineEnd
  have := lp (fun m i => fX16_lineEnd_L2 fu m 323 (nI i) A) h1 (fun m i g1 g2 => by
    obtain ⟨v, v1, v2⟩ := m_hd hR hB h (i := i) (by omega)
    rw [fX16_lineEnd_L2, gR_ok o, ob_some, rw_g1065_323 hR, v1, ob_some, if_neg (show ¬ v = (10 : Int32) from fun z => h3 i g1 g2 ((v2 10 (by decide)).mp z)), nI_1]) (fu - (e - s))
  rw [show fu - (e - s) + (e - s) = fu by omega] at this
  rw [this]
  obtain ⟨v, v1, v2⟩ := m_hd hR hB h (i := e) (by omega)
  rw [show fu - (e - s) = (fu - (e - s) - 1) + 1 by omega, fX16_lineEnd_L2, gR_ok o, ob_some, rw_g1065_323 hR, v1, ob_some, if_pos (show v = (10 : Int32) from (v2 10 (by decide)).mpr h4)]
theorem x_hd (hW : XW M) (hB : By M) (h : HD H n A M) {i : Nat} (hi : i < n) : ∃ v, gA M 100 (some 320) (nI i) = some v ∧ ∀ x, x < 128 → (v = nI x ↔ H i = x) := by
  have := h.1
  refine ⟨mA M 320 i, gA_ok (xw_ok320 hW) (by rw [xw_ln320 hW]; omega) (by omega), fun x hx => ?_⟩
  rw [isB_n (hB 320 i (xw_ok320 hW).2.2) hx, h.2.2.2 i hi]
/-- the class goes to the end of a line -/
theorem x_toEnd (fu : Nat) (hW : XW M) (hB : By M) (h : HD H n A M) {s e m : Nat} (h1 : s ≤ e) (h2 : e < n) (h3 : ∀ i, s ≤ i → i < e → H i ≠ 10) (h4 : H e = 10) (hm : e - s < m) :
    fX7_readHead_L8 fu m 319 (nI n) (nI s) (nI s) M = (if toN H s e ≤ s then fX7_readHead_L8 fu (m - 1 - (e - s)) 319 (nI n) (nI (e + 1)) (nI (e + 1)) M else if s = 0 then b2 (fX7_readRequestLine fu 319 (nI (toN H s e)) M) (fun v13 M12 => if v13 = 0 then some ((400 : Int32), M12) else fX7_readHead_L8 fu (m - 1 - (e - s)) 319 (nI n) (nI (e + 1)) (nI (e + 1)) M12) else b2 (fX7_readField fu 319 (nI s) (nI (toN H s e)) M) (fun v10 M9 => if v10 = 0 then some ((400 : Int32), M9) else fX7_readHead_L8 fu (m - 1 - (e - s)) 319 (nI n) (nI (e + 1)) (nI (e + 1)) M9)) := by
  have hn := h.1
  have o7 := xw_ok319 hW
  have g5 := xw_g450_319 hW
  have ln := xw_ln320 hW
  have := lp (fun m i => fX7_readHead_L8 fu m 319 (nI n) (nI s) (nI i) M) h1 (fun m i g1 g2 => by
    obtain ⟨v, v1, v2⟩ := x_hd hW hB h (i := i) (by omega)
    rw [fX7_readHead_L8, if_neg (nI_ge (by omega) (by omega)), gR_ok o7, ob_some, g5, aL_ok (xw_ok320 hW) ln, ob_some, if_neg (show ¬ nI 4096 ≤ nI i from nI_ge (by omega) (by decide)), ob_some, v1, ob_some, if_neg (show ¬ v = (10 : Int32) from fun z => h3 i g1 g2 ((v2 10 (by decide)).mp z))]
    unfold fX7_readHead_L84
    rw [nI_1]) (m - (e - s))
  rw [show m - (e - s) + (e - s) = m by omega] at this
  rw [this]
  obtain ⟨v, v1, v2⟩ := x_hd hW hB h (i := e) (by omega)
  obtain ⟨t1, t2⟩ := toN_le (H := H) h1
  rw [show m - (e - s) = (m - 1 - (e - s)) + 1 by omega, fX7_readHead_L8, if_neg (nI_ge (by omega) (by omega)), gR_ok o7, ob_some, g5, aL_ok (xw_ok320 hW) ln, ob_some, if_neg (show ¬ nI 4096 ≤ nI e from nI_ge (by omega) (by decide)), ob_some, v1, ob_some, if_pos (show v = (10 : Int32) from (v2 10 (by decide)).mpr h4), rc_ok o7, ob_some, x_lineEnd fu hW h h1 h2, b2_some]
  unfold fX7_readHead_L80 fX7_readHead_L84
  rw [nI_1]
  by_cases q : toN H s e ≤ s
  · rw [if_pos (nI_le q (by omega)), if_pos q]
  · rw [if_neg (nI_ge (by omega) (by omega)), if_neg q]
    by_cases q2 : s = 0
    · rw [if_pos q2, if_pos (show nI s = 0 by rw [q2]; rfl), rc_ok o7, ob_some]
    · rw [if_neg q2, if_neg (show ¬ nI s = 0 from fun z => q2 ((nI_eq (b := 0) (by omega) (by decide)).mp z)), rc_ok o7, ob_some]
/-- the field lines, in both -/
theorem sp_lines (fu : Nat) (hfu : 5000 ≤ fu) (c : Option Nat) (a5 a6 : Int32) (hl : H (n - 1) = 10) : ∀ (d s : Nat) (A M : Mm) (m m2 : Nat), n ≤ s + d → 1 ≤ s → s ≤ n → d ≤ m → n - s ≤ m2 → RW A → By A → XW M → By M → HD H n A M → (mF A 1066 323) = nI n → PR A M s →
    ∃ A' M', FF SfA 323 A A' ∧ FF SfM 319 M M' ∧ ((PR A' M' n ∧ fX16_answer_L127 fu (m + 1) 323 c (nI (s - 1)) 1 a5 a6 A = fX16_answer_L183 fu 323 c 1 a5 a6 A' ∧ fX7_readHead_L8 fu (m2 + 1) 319 (nI n) (nI s) (nI s) M = fX7_readHead_L90 fu 319 M') ∨ (fX16_answer_L127 fu (m + 1) 323 c (nI (s - 1)) 1 a5 a6 A = fX16_answer_L183 fu 323 c 0 a5 a6 A' ∧ fX7_readHead_L8 fu (m2 + 1) 319 (nI n) (nI s) (nI s) M = some ((400 : Int32), M'))) := by
  intro d
  induction d with
  | zero =>
    intro s A M m m2 d1 d2 d3 d4 d5 hR hB hW hBM h hL hp
    have hn := h.1
    have e : s = n := by omega
    subst e
    refine ⟨A, M, FF.rf, FF.rf, Or.inl ⟨hp, ?_, ?_⟩⟩
    · rw [fX16_answer_L127, if_neg (by decide), gI_ok (rw_ok323 hR), ob_some, hL, nI_1, show s - 1 + 1 = s by omega, if_pos (nI_le (Nat.le_refl _) (by omega))]
    · rw [fX7_readHead_L8, if_pos (nI_le (Nat.le_refl _) (by omega))]
  | succ d ih =>
    intro s A M m m2 d1 d2 d3 d4 d5 hR hB hW hBM h hL hp
    have hn := h.1
    by_cases q : s = n
    · subst q
      refine ⟨A, M, FF.rf, FF.rf, Or.inl ⟨hp, ?_, ?_⟩⟩
      · rw [fX16_answer_L127, if_neg (by decide), gI_ok (rw_ok323 hR), ob_some, hL, nI_1, show s - 1 + 1 = s by omega, if_pos (nI_le (Nat.le_refl _) (by omega))]
      · rw [fX7_readHead_L8, if_pos (nI_le (Nat.le_refl _) (by omega))]
    · obtain ⟨e, e1, e2, e3, e4⟩ := Stop.ex (fun i => H i ≠ 10) (i := s) (n := n - 1) (by omega)
      have h4 : H e = 10 := by
        by_cases z : e < n - 1
        · exact Classical.not_not.mp (e4 z)
        · rw [show e = n - 1 by omega]; exact hl
      have hen : e < n := by omega
      obtain ⟨t1, t2⟩ := toN_le (H := H) e1
      have o := rw_ok323 hR
      have ra : fX16_answer_L127 fu (m + 1) 323 c (nI (s - 1)) 1 a5 a6 A = (if toN H s e ≤ s then fX16_answer_L127 fu m 323 c (nI e) 1 a5 a6 A else b2 (fX16_field fu 323 (nI s) (nI (toN H s e)) A) (fun v10 M9 => fX16_answer_L127 fu m 323 c (nI e) v10 a5 a6 M9)) := by
        rw [fX16_answer_L127, if_neg (by decide), gI_ok o, ob_some, hL, nI_1, show s - 1 + 1 = s by omega, if_neg (nI_ge (by omega) (by omega)), rc_ok o, ob_some, m_lineEnd fu hfu hR hB h e1 hen e3 h4, b2_some, rc_ok o, ob_some, m_shown fu hR hB h e1 hen, b2_some]
        unfold fX16_answer_L180
        by_cases z : toN H s e ≤ s
        · rw [if_pos (nI_le z (by omega)), if_pos z]
        · rw [if_neg (nI_ge (by omega) (by omega)), if_neg z, rc_ok o, ob_some]
      have rx := x_toEnd fu hW hBM h (m := m2 + 1) e1 hen e3 h4 (by omega)
      rw [ra, rx, if_neg (show ¬ s = 0 by omega)]
      by_cases z : toN H s e ≤ s
      · rw [if_pos z, if_pos z]
        obtain ⟨A', M', r1, r2, r3⟩ := ih (e + 1) A M (m - 1) (m2 - 1 - (e - s)) (by omega) (by omega) (by omega) (by omega) (by omega) hR hB hW hBM h hL (PR_mono hp (by omega))
        rw [show m - 1 + 1 = m by omega, show m2 - 1 - (e - s) + 1 = m2 + 1 - 1 - (e - s) by omega, show e + 1 - 1 = e by omega] at r3
        exact ⟨A', M', r1, r2, r3⟩
      · rw [if_neg z, if_neg z]
        rcases sp_field fu hfu hR hB hW h (f := s) (t := toN H s e) (p := e) (by omega) (by omega) (PR_mono hp e1) (by omega) (by omega) with ⟨A1, M1, f1, f2, f3, f4, f5⟩ | ⟨f1, f2⟩
        · rw [f1, b2_some, f2, b2_some, if_neg (by decide)]
          obtain ⟨A', M', r1, r2, r3⟩ := ih (e + 1) A1 M1 (m - 1) (m2 - 1 - (e - s)) (by omega) (by omega) (by omega) (by omega) (by omega) (f3.rW hR) (f3.by' hB) (f4.xW hW) (f4.by' hBM) (h.ff f3 f4) ((f3.2.2.2.2 _ _ (by unfold SfA; omega)).trans hL) f5
          rw [show m - 1 + 1 = m by omega, show m2 - 1 - (e - s) + 1 = m2 + 1 - 1 - (e - s) by omega, show e + 1 - 1 = e by omega] at r3
          exact ⟨A', M', f3.tr r1, f4.tr r2, r3⟩
        · rw [f1, b2_some, f2, b2_some, if_pos rfl]
          refine ⟨A, M, FF.rf, FF.rf, Or.inr ⟨?_, rfl⟩⟩
          rw [show m = (m - 1) + 1 by omega, fX16_answer_L127, if_pos rfl]
end Lines
