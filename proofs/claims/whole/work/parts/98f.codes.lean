/-! ===== part 98f: codes of names; lines ===== -/
def sgn (c : Nat) : Prop := c = 45 ∨ c = 95 ∨ c = 46 ∨ c = 33 ∨ c = 35 ∨ c = 36 ∨ c = 37 ∨ c = 38 ∨ c = 39 ∨ c = 42 ∨ c = 43 ∨ c = 94 ∨ c = 96 ∨ c = 124 ∨ c = 126
def nameP (c : Nat) : Prop := (97 ≤ smN c ∧ smN c ≤ 122) ∨ (48 ≤ c ∧ c ≤ 57) ∨ sgn c
section Codes
variable {A M : Mm} {H : Nat → Nat} {n : Nat}
theorem m_L100 (fu : Nat) {c : Nat} (hc : c < 256) (s : Int32) (A : Mm) : ((97 ≤ smN c ∧ smN c ≤ 122) ∨ (48 ≤ c ∧ c ≤ 57) ∨ s ≠ 0 → fX16_isNameCode_L100 fu (nI c) (nI (smN c)) s A = some (1, A)) ∧ (¬ ((97 ≤ smN c ∧ smN c ≤ 122) ∨ (48 ≤ c ∧ c ≤ 57) ∨ s ≠ 0) → fX16_isNameCode_L100 fu (nI c) (nI (smN c)) s A = some (0, A)) := by
  have hs := smN_lt hc
  have L113 : fX16_isNameCode_L113 fu (nI c) s A = if (48 ≤ c ∧ c ≤ 57) ∨ s ≠ 0 then some (1, A) else some (0, A) := by
    unfold fX16_isNameCode_L113
    rw [m_digit fu hc, b2_some, if10, rN0, rN1]
    by_cases q : 48 ≤ c ∧ c ≤ 57
    · rw [if_pos q, if_pos (Or.inl q)]
    · rw [if_neg q]
      by_cases q2 : s = 0
      · rw [if_pos q2, if_neg (fun e => e.elim q (fun z => z q2))]
      · rw [if_neg q2, if_pos (Or.inr q2)]
  unfold fX16_isNameCode_L100
  rw [L113, rN1]
  by_cases q : smN c < 97
  · rw [if_pos (show nI (smN c) < (97 : Int32) from nI_lt (b := 97) q (by decide))]
    refine ⟨fun e => if_pos (e.elim (fun z => by omega) id), fun e => if_neg (fun z => e (Or.inr z))⟩
  · rw [if_neg (show ¬ nI (smN c) < (97 : Int32) from nI_nlt (b := 97) (by omega) (by omega))]
    by_cases q2 : smN c ≤ 122
    · rw [if_pos (show nI (smN c) ≤ (122 : Int32) from nI_le (b := 122) q2 (by decide))]
      exact ⟨fun _ => rfl, fun e => absurd (Or.inl ⟨by omega, q2⟩) e⟩
    · rw [if_neg (show ¬ nI (smN c) ≤ (122 : Int32) from nI_ge (a := 122) (by omega) (by omega))]
      refine ⟨fun e => if_pos (e.elim (fun z => by omega) id), fun e => if_neg (fun z => e (Or.inr z))⟩
theorem m_nameCode (fu : Nat) {c : Nat} (hc : c < 256) (A : Mm) : (nameP c → fX16_isNameCode fu (nI c) A = some (1, A)) ∧ (¬ nameP c → fX16_isNameCode fu (nI c) A = some (0, A)) := by
  unfold fX16_isNameCode fX16_isNameCode_L95
  rw [m_small fu hc, b2_some]
  have yes : sgn c → (nameP c → fX16_isNameCode_L100 fu (nI c) (nI (smN c)) 1 A = some (1, A)) ∧ (¬ nameP c → fX16_isNameCode_L100 fu (nI c) (nI (smN c)) 1 A = some (0, A)) := fun q => ⟨fun _ => (m_L100 fu hc 1 A).1 (Or.inr (Or.inr (by decide))), fun e => absurd (Or.inr (Or.inr q)) e⟩
  by_cases q45 : c = 45
  · rw [if_pos (show nI c = (45 : Int32) by rw [q45]; rfl)]
    exact yes (Or.inl q45)
  rw [if_neg (show ¬ nI c = (45 : Int32) from fun e => q45 ((nI_eq (b := 45) (by omega) (by decide)).mp e))]
  by_cases q95 : c = 95
  · rw [if_pos (show nI c = (95 : Int32) by rw [q95]; rfl)]
    exact yes (Or.inr (Or.inl q95))
  rw [if_neg (show ¬ nI c = (95 : Int32) from fun e => q95 ((nI_eq (b := 95) (by omega) (by decide)).mp e))]
  by_cases q46 : c = 46
  · rw [if_pos (show nI c = (46 : Int32) by rw [q46]; rfl)]
    exact yes (Or.inr (Or.inr (Or.inl q46)))
  rw [if_neg (show ¬ nI c = (46 : Int32) from fun e => q46 ((nI_eq (b := 46) (by omega) (by decide)).mp e))]
  by_cases q33 : c = 33
  · rw [if_pos (show nI c = (33 : Int32) by rw [q33]; rfl)]
    exact yes (Or.inr (Or.inr (Or.inr (Or.inl q33))))
  rw [if_neg (show ¬ nI c = (33 : Int32) from fun e => q33 ((nI_eq (b := 33) (by omega) (by decide)).mp e))]
  by_cases q35 : c = 35
  · rw [if_pos (show nI c = (35 : Int32) by rw [q35]; rfl)]
    exact yes (Or.inr (Or.inr (Or.inr (Or.inr (Or.inl q35)))))
  rw [if_neg (show ¬ nI c = (35 : Int32) from fun e => q35 ((nI_eq (b := 35) (by omega) (by decide)).mp e))]
  by_cases q36 : c = 36
  · rw [if_pos (show nI c = (36 : Int32) by rw [q36]; rfl)]
    exact yes (Or.inr (Or.inr (Or.inr (Or.inr (Or.inr (Or.inl q36))))))
  rw [if_neg (show ¬ nI c = (36 : Int32) from fun e => q36 ((nI_eq (b := 36) (by omega) (by decide)).mp e))]
  by_cases q37 : c = 37
  · rw [if_pos (show nI c = (37 : Int32) by rw [q37]; rfl)]
    exact yes (Or.inr (Or.inr (Or.inr (Or.inr (Or.inr (Or.inr (Or.inl q37)))))))
  rw [if_neg (show ¬ nI c = (37 : Int32) from fun e => q37 ((nI_eq (b := 37) (by omega) (by decide)).mp e))]
  by_cases q38 : c = 38
  · rw [if_pos (show nI c = (38 : Int32) by rw [q38]; rfl)]
    exact yes (Or.inr (Or.inr (Or.inr (Or.inr (Or.inr (Or.inr (Or.inr (Or.inl q38))))))))
  rw [if_neg (show ¬ nI c = (38 : Int32) from fun e => q38 ((nI_eq (b := 38) (by omega) (by decide)).mp e))]
  by_cases q39 : c = 39
  · rw [if_pos (show nI c = (39 : Int32) by rw [q39]; rfl)]
    exact yes (Or.inr (Or.inr (Or.inr (Or.inr (Or.inr (Or.inr (Or.inr (Or.inr (Or.inl q39)))))))))
  rw [if_neg (show ¬ nI c = (39 : Int32) from fun e => q39 ((nI_eq (b := 39) (by omega) (by decide)).mp e))]
  by_cases q42 : c = 42
  · rw [if_pos (show nI c = (42 : Int32) by rw [q42]; rfl)]
    exact yes (Or.inr (Or.inr (Or.inr (Or.inr (Or.inr (Or.inr (Or.inr (Or.inr (Or.inr (Or.inl q42))))))))))
  rw [if_neg (show ¬ nI c = (42 : Int32) from fun e => q42 ((nI_eq (b := 42) (by omega) (by decide)).mp e))]
  by_cases q43 : c = 43
  · rw [if_pos (show nI c = (43 : Int32) by rw [q43]; rfl)]
    exact yes (Or.inr (Or.inr (Or.inr (Or.inr (Or.inr (Or.inr (Or.inr (Or.inr (Or.inr (Or.inr (Or.inl q43)))))))))))
  rw [if_neg (show ¬ nI c = (43 : Int32) from fun e => q43 ((nI_eq (b := 43) (by omega) (by decide)).mp e))]
  by_cases q94 : c = 94
  · rw [if_pos (show nI c = (94 : Int32) by rw [q94]; rfl)]
    exact yes (Or.inr (Or.inr (Or.inr (Or.inr (Or.inr (Or.inr (Or.inr (Or.inr (Or.inr (Or.inr (Or.inr (Or.inl q94))))))))))))
  rw [if_neg (show ¬ nI c = (94 : Int32) from fun e => q94 ((nI_eq (b := 94) (by omega) (by decide)).mp e))]
  by_cases q96 : c = 96
  · rw [if_pos (show nI c = (96 : Int32) by rw [q96]; rfl)]
    exact yes (Or.inr (Or.inr (Or.inr (Or.inr (Or.inr (Or.inr (Or.inr (Or.inr (Or.inr (Or.inr (Or.inr (Or.inr (Or.inl q96)))))))))))))
  rw [if_neg (show ¬ nI c = (96 : Int32) from fun e => q96 ((nI_eq (b := 96) (by omega) (by decide)).mp e))]
  by_cases q124 : c = 124
  · rw [if_pos (show nI c = (124 : Int32) by rw [q124]; rfl)]
    exact yes (Or.inr (Or.inr (Or.inr (Or.inr (Or.inr (Or.inr (Or.inr (Or.inr (Or.inr (Or.inr (Or.inr (Or.inr (Or.inr (Or.inl q124))))))))))))))
  rw [if_neg (show ¬ nI c = (124 : Int32) from fun e => q124 ((nI_eq (b := 124) (by omega) (by decide)).mp e))]
  by_cases q126 : c = 126
  · rw [if_pos (show nI c = (126 : Int32) by rw [q126]; rfl)]
    exact yes (Or.inr (Or.inr (Or.inr (Or.inr (Or.inr (Or.inr (Or.inr (Or.inr (Or.inr (Or.inr (Or.inr (Or.inr (Or.inr (Or.inr (q126)))))))))))))))
  rw [if_neg (show ¬ nI c = (126 : Int32) from fun e => q126 ((nI_eq (b := 126) (by omega) (by decide)).mp e))]
  have ns : ¬ sgn c := by unfold sgn; omega
  exact ⟨fun e => (m_L100 fu hc 0 A).1 (e.elim Or.inl (fun z => z.elim (fun y => Or.inr (Or.inl y)) (fun y => absurd y ns))), fun e => (m_L100 fu hc 0 A).2 (fun z => z.elim (fun y => e (Or.inl y)) (fun y => y.elim (fun w => e (Or.inr (Or.inl w))) (fun w => w rfl)))⟩
theorem tx4 : txL 4 = 15 ∧ ∀ c, c < 128 → ((∃ i, i < 15 ∧ txC 4 i = c) ↔ sgn c) := by
  refine ⟨by decide +kernel, ?_⟩
  have : ∀ c, c < 128 → ((∃ i, i < 15 ∧ txC 4 i = c) ↔ (c = 45 ∨ c = 95 ∨ c = 46 ∨ c = 33 ∨ c = 35 ∨ c = 36 ∨ c = 37 ∨ c = 38 ∨ c = 39 ∨ c = 42 ∨ c = 43 ∨ c = 94 ∨ c = 96 ∨ c = 124 ∨ c = 126)) := by decide +kernel
  exact this
theorem x_index4 (fu : Nat) (hfu : 100 ≤ fu) {c : Nat} (hc : c < 128) (M : Mm) : ∃ r, fJ0_indexOf_0f7a4 fu 4 (nI c) M = some (r, M) ∧ (r < 0 ↔ ¬ sgn c) := by
  have hl : (4 : Nat) < strB.length := by rw [tx_len]; decide
  have h1 : gSv (some 4) = some (some 104) := by unfold gSv; exact if_pos hl
  have h3 : gSc (some 4) = some 0 := by unfold gSc; exact if_pos hl
  have h2 : aLS (some 104) = some (nI 15) := by
    show (if 100 ≤ 104 ∧ 104 - 100 < strB.length then some (nI (strB.getD (104 - 100) []).length) else none) = _
    rw [if_pos ⟨by decide, hl⟩]
    have := tx4.1
    unfold txL at this
    rw [this]
  have h4 : ∀ i, i < 15 → gAS (some 104) (nI i) = some (nI (txC 4 i)) := fun i hi => by
    have := tx4.1
    unfold txL at this
    show (if (100 ≤ 104 ∧ 104 - 100 < strB.length) ∧ ¬ nI i < 0 ∧ (nI i).toNatClampNeg < (strB.getD (104 - 100) []).length then some ((strB.getD (104 - 100) []).getD (nI i).toNatClampNeg 0) else none) = _
    rw [nI_clamp (by omega), if_pos ⟨⟨by decide, hl⟩, nI_pos (by omega), by rw [this]; exact hi⟩]
    exact congrArg some ((tx_ok 4 (by decide)).2 i (by rw [tx4.1]; exact hi)).1
  obtain ⟨j, hj⟩ := Stop.ex (fun i => txC 4 i ≠ c) (i := 0) (n := 15) (by decide)
  have hlo := lpStop (fun m i => fJ1_indexOfChar_4cfef_L7 fu m (some 104) (nI 15) (nI c) (nI i) M) hj (fun i => if i < 15 then some (nI i, M) else some (-1, M)) (fun m x _ h2' hp => by
    have := ((tx_ok 4 (by decide)).2 x (by rw [tx4.1]; exact h2')).2.2
    rw [fJ1_indexOfChar_4cfef_L7, if_neg (nI_ge h2' (by decide)), h4 x h2', ob_some, if_neg (fun e => hp ((nI_eq (by omega) (by omega)).mp e)), nI_1]) (fun m x _ h2' hp => by
    rw [fJ1_indexOfChar_4cfef_L7, if_neg (nI_ge h2' (by decide)), h4 x h2', ob_some, if_pos (by rw [Classical.not_not.mp hp]), if_pos h2']) (fun m => by
    rw [fJ1_indexOfChar_4cfef_L7, if_pos (nI_le (Nat.le_refl _) (by decide)), if_neg (by decide)]) (fu := fu) (by omega)
  have hx := tx4.2 c hc
  refine ⟨if j < 15 then nI j else -1, ?_, ?_⟩
  · unfold fJ0_indexOf_0f7a4 fJ0_indexOf_7cf53 fJ0_isLatin1_aae02 fJ1_indexOf_4cfef fJ1_canEncode_9a6ad fJ1_indexOfChar_4cfef
    have j0 : jmax (0 : Int32) (0 : Int32) = 0 := by decide
    have j15 : jmin (nI 15) (nI 15) = nI 15 := by decide
    rw [x_rcS (by decide), ob_some, x_rcS (by decide), ob_some, if_neg (by decide), h3, ob_some, if_pos rfl, rN1, b2_some, if_neg (by decide), h1, ob_some, ob_some, x_len fu (by decide), b2_some, tx4.1, if_neg (nI_pos (by omega)), if_neg (show ¬ (255 : Int32) < nI c from nI_nlt (a := 255) (by omega) (by omega)), rN1, b2_some, if_neg (by decide), h2, ob_some, j0, j15, if_pos (by decide), sml hc]
    have hlo' : fJ1_indexOfChar_4cfef_L7 fu fu (some 104) (nI 15) (nI c) (0 : Int32) M = if j < 15 then some (nI j, M) else some (-1, M) := hlo
    rw [hlo']
    by_cases q : j < 15
    · rw [if_pos q, if_pos q, b2_some, b2_some, b2_some]
    · rw [if_neg q, if_neg q, b2_some, b2_some, b2_some]
  · rw [← hx]
    obtain ⟨g1, g2, g3, g4⟩ := hj
    by_cases q : j < 15
    · rw [if_pos q]
      exact ⟨fun e => absurd e (nI_pos (by omega)), fun e => absurd ⟨j, q, Classical.not_not.mp (g4 q)⟩ e⟩
    · rw [if_neg q]
      refine ⟨fun _ e => ?_, fun _ => by decide⟩
      obtain ⟨i, i1, i2⟩ := e
      exact g3 i (by omega) (by omega) i2
theorem x_nameCode (fu : Nat) (hfu : 100 ≤ fu) {c : Nat} (hc : c < 256) (M : Mm) : (nameP c → fX7_isNameCode fu (nI c) M = some (1, M)) ∧ (¬ nameP c → fX7_isNameCode fu (nI c) M = some (0, M)) := by
  have hsg : sgn c → c < 128 := fun q => by unfold sgn at q; omega
  have L38 : (sgn c → fX7_isNameCode_L38 fu (nI c) M = some (1, M)) ∧ (¬ sgn c → fX7_isNameCode_L38 fu (nI c) M = some (0, M)) := by
    unfold fX7_isNameCode_L38
    by_cases q : 128 ≤ c
    · rw [if_pos (show (128 : Int32) ≤ nI c from nI_le (a := 128) q (by omega)), rN0]
      exact ⟨fun e => absurd (hsg e) (by omega), fun _ => rfl⟩
    · obtain ⟨r, r1, r2⟩ := x_index4 fu hfu (c := c) (by omega) M
      rw [if_neg (show ¬ (128 : Int32) ≤ nI c from nI_ge (b := 128) (by omega) (by decide)), x_rcS (by decide), ob_some, i2c_n (by omega), r1, b2_some, rN0, rN1]
      exact ⟨fun e => if_neg (fun z => (r2.mp z) e), fun e => if_pos (r2.mpr e)⟩
  have L24 : ((48 ≤ c ∧ c ≤ 57) ∨ sgn c → fX7_isNameCode_L24 fu (nI c) M = some (1, M)) ∧ (¬ ((48 ≤ c ∧ c ≤ 57) ∨ sgn c) → fX7_isNameCode_L24 fu (nI c) M = some (0, M)) := by
    unfold fX7_isNameCode_L24
    by_cases q : c < 48
    · rw [if_pos (show nI c < (48 : Int32) from nI_lt (b := 48) q (by decide))]
      exact ⟨fun e => L38.1 (e.elim (fun z => by omega) id), fun e => L38.2 (fun z => e (Or.inr z))⟩
    · rw [if_neg (show ¬ nI c < (48 : Int32) from nI_nlt (b := 48) (by omega) (by omega))]
      by_cases q2 : 57 < c
      · rw [if_pos (show (57 : Int32) < nI c from nI_lt (a := 57) q2 (by omega))]
        exact ⟨fun e => L38.1 (e.elim (fun z => by omega) id), fun e => L38.2 (fun z => e (Or.inr z))⟩
      · rw [if_neg (show ¬ (57 : Int32) < nI c from nI_nlt (a := 57) (by omega) (by omega)), rN1]
        exact ⟨fun _ => rfl, fun e => absurd (Or.inl ⟨by omega, by omega⟩) e⟩
  have L12 : ((65 ≤ c ∧ c ≤ 90) ∨ (48 ≤ c ∧ c ≤ 57) ∨ sgn c → fX7_isNameCode_L12 fu (nI c) M = some (1, M)) ∧ (¬ ((65 ≤ c ∧ c ≤ 90) ∨ (48 ≤ c ∧ c ≤ 57) ∨ sgn c) → fX7_isNameCode_L12 fu (nI c) M = some (0, M)) := by
    unfold fX7_isNameCode_L12
    by_cases q : c < 65
    · rw [if_pos (show nI c < (65 : Int32) from nI_lt (b := 65) q (by decide))]
      exact ⟨fun e => L24.1 (e.elim (fun z => by omega) id), fun e => L24.2 (fun z => e (Or.inr z))⟩
    · rw [if_neg (show ¬ nI c < (65 : Int32) from nI_nlt (b := 65) (by omega) (by omega))]
      by_cases q2 : c ≤ 90
      · rw [if_pos (show nI c ≤ (90 : Int32) from nI_le (b := 90) q2 (by decide)), rN1]
        exact ⟨fun _ => rfl, fun e => absurd (Or.inl ⟨by omega, q2⟩) e⟩
      · rw [if_neg (show ¬ nI c ≤ (90 : Int32) from nI_ge (a := 90) (by omega) (by omega))]
        exact ⟨fun e => L24.1 (e.elim (fun z => by omega) id), fun e => L24.2 (fun z => e (Or.inr z))⟩
  have key : nameP c ↔ ((97 ≤ c ∧ c ≤ 122) ∨ (65 ≤ c ∧ c ≤ 90) ∨ (48 ≤ c ∧ c ≤ 57) ∨ sgn c) := by
    have : (97 ≤ smN c ∧ smN c ≤ 122) ↔ ((97 ≤ c ∧ c ≤ 122) ∨ (65 ≤ c ∧ c ≤ 90)) := by unfold smN; split <;> omega
    unfold nameP
    rw [this, or_assoc]
  rw [key]
  unfold fX7_isNameCode
  by_cases q : c < 97
  · rw [if_pos (show nI c < (97 : Int32) from nI_lt (b := 97) q (by decide))]
    exact ⟨fun e => L12.1 (e.elim (fun z => by omega) id), fun e => L12.2 (fun z => e (Or.inr z))⟩
  · rw [if_neg (show ¬ nI c < (97 : Int32) from nI_nlt (b := 97) (by omega) (by omega))]
    by_cases q2 : c ≤ 122
    · rw [if_pos (show nI c ≤ (122 : Int32) from nI_le (b := 122) q2 (by decide)), rN1]
      exact ⟨fun _ => rfl, fun e => absurd (Or.inl ⟨by omega, q2⟩) e⟩
    · rw [if_neg (show ¬ nI c ≤ (122 : Int32) from nI_ge (a := 122) (by omega) (by omega))]
      exact ⟨fun e => L12.1 (e.elim (fun z => by omega) id), fun e => L12.2 (fun z => e (Or.inr z))⟩
end Codes
