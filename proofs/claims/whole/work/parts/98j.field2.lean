/-! ===== part 98j: fields, in both ===== -/
/-- what was read of a request's fields, in both -/
def PR (A M : Mm) (p : Nat) : Prop := (∃ x, x ≤ p ∧ (mF A 1072 323) = nI x ∧ (mF M 457 319) = nI x) ∧ (∃ x, x ≤ p ∧ (mF M 458 319) = nI x ∧ (mF A 1078 323) = (if x = 0 then 0 else 1)) ∧ (∃ x, x ≤ p ∧ (mF A 1073 323) = nI x ∧ (mF M 459 319) = nI x ∧ (x = 0 → (mF A 1076 323) = 0 ∧ (mF A 1077 323) = 0 ∧ (mF A 1075 323) = 0 ∧ (mF M 460 319) = 0) ∧ (x = 1 → ((mF A 1076 323) ≠ 0 ∧ (mF M 460 319) = -1) ∨ ((mF A 1076 323) = 0 ∧ ∃ V, V < 1000000000 ∧ (mF M 460 319) = nI V ∧ ((65536 < V ∧ (mF A 1077 323) ≠ 0) ∨ (V ≤ 65536 ∧ (mF A 1077 323) = 0 ∧ (mF A 1075 323) = nI V))))) ∧ (∃ x, x ≤ p ∧ (mF A 1074 323) = nI x ∧ (mF M 461 319) = nI x ∧ (x ≠ 0 → ∃ f t, f ≤ t ∧ t ≤ p ∧ (mF A 1085 323) = nI f ∧ (mF M 462 319) = nI f ∧ (mF A 1086 323) = nI t ∧ (mF M 463 319) = nI t)) ∧ ((mF A 1070 323) = (mF M 464 319)) ∧ ((mF A 1070 323) = 0 ∨ (mF A 1070 323) = 1) ∧ ((mF A 1071 323) = (mF M 465 319)) ∧ ((mF A 1071 323) = 0 ∨ (mF A 1071 323) = 1) ∧ True
theorem PR.ho {A M : Mm} {p : Nat} (h : PR A M p) : ∃ x, x ≤ p ∧ (mF A 1072 323) = nI x ∧ (mF M 457 319) = nI x := h.1
theorem PR.en {A M : Mm} {p : Nat} (h : PR A M p) : ∃ x, x ≤ p ∧ (mF M 458 319) = nI x ∧ (mF A 1078 323) = (if x = 0 then 0 else 1) := h.2.1
theorem PR.le {A M : Mm} {p : Nat} (h : PR A M p) : ∃ x, x ≤ p ∧ (mF A 1073 323) = nI x ∧ (mF M 459 319) = nI x ∧ (x = 0 → (mF A 1076 323) = 0 ∧ (mF A 1077 323) = 0 ∧ (mF A 1075 323) = 0 ∧ (mF M 460 319) = 0) ∧ (x = 1 → ((mF A 1076 323) ≠ 0 ∧ (mF M 460 319) = -1) ∨ ((mF A 1076 323) = 0 ∧ ∃ V, V < 1000000000 ∧ (mF M 460 319) = nI V ∧ ((65536 < V ∧ (mF A 1077 323) ≠ 0) ∨ (V ≤ 65536 ∧ (mF A 1077 323) = 0 ∧ (mF A 1075 323) = nI V)))) := h.2.2.1
theorem PR.ma {A M : Mm} {p : Nat} (h : PR A M p) : ∃ x, x ≤ p ∧ (mF A 1074 323) = nI x ∧ (mF M 461 319) = nI x ∧ (x ≠ 0 → ∃ f t, f ≤ t ∧ t ≤ p ∧ (mF A 1085 323) = nI f ∧ (mF M 462 319) = nI f ∧ (mF A 1086 323) = nI t ∧ (mF M 463 319) = nI t) := h.2.2.2.1
theorem PR.cl {A M : Mm} {p : Nat} (h : PR A M p) : (mF A 1070 323) = (mF M 464 319) := h.2.2.2.2.1
theorem PR.c2 {A M : Mm} {p : Nat} (h : PR A M p) : (mF A 1070 323) = 0 ∨ (mF A 1070 323) = 1 := h.2.2.2.2.2.1
theorem PR.ke {A M : Mm} {p : Nat} (h : PR A M p) : (mF A 1071 323) = (mF M 465 319) := h.2.2.2.2.2.2.1
theorem PR.k2 {A M : Mm} {p : Nat} (h : PR A M p) : (mF A 1071 323) = 0 ∨ (mF A 1071 323) = 1 := h.2.2.2.2.2.2.2.1
theorem PR.mk {A M : Mm} {p : Nat} (ho_ : ∃ x, x ≤ p ∧ (mF A 1072 323) = nI x ∧ (mF M 457 319) = nI x) (en_ : ∃ x, x ≤ p ∧ (mF M 458 319) = nI x ∧ (mF A 1078 323) = (if x = 0 then 0 else 1)) (le_ : ∃ x, x ≤ p ∧ (mF A 1073 323) = nI x ∧ (mF M 459 319) = nI x ∧ (x = 0 → (mF A 1076 323) = 0 ∧ (mF A 1077 323) = 0 ∧ (mF A 1075 323) = 0 ∧ (mF M 460 319) = 0) ∧ (x = 1 → ((mF A 1076 323) ≠ 0 ∧ (mF M 460 319) = -1) ∨ ((mF A 1076 323) = 0 ∧ ∃ V, V < 1000000000 ∧ (mF M 460 319) = nI V ∧ ((65536 < V ∧ (mF A 1077 323) ≠ 0) ∨ (V ≤ 65536 ∧ (mF A 1077 323) = 0 ∧ (mF A 1075 323) = nI V))))) (ma_ : ∃ x, x ≤ p ∧ (mF A 1074 323) = nI x ∧ (mF M 461 319) = nI x ∧ (x ≠ 0 → ∃ f t, f ≤ t ∧ t ≤ p ∧ (mF A 1085 323) = nI f ∧ (mF M 462 319) = nI f ∧ (mF A 1086 323) = nI t ∧ (mF M 463 319) = nI t)) (cl_ : (mF A 1070 323) = (mF M 464 319)) (c2_ : (mF A 1070 323) = 0 ∨ (mF A 1070 323) = 1) (ke_ : (mF A 1071 323) = (mF M 465 319)) (k2_ : (mF A 1071 323) = 0 ∨ (mF A 1071 323) = 1) : PR A M p := ⟨ho_, en_, le_, ma_, cl_, c2_, ke_, k2_, trivial⟩
theorem tx5 : txL 5 = 4 ∧ txL 6 = 17 ∧ txL 7 = 14 ∧ txL 8 = 13 ∧ txL 9 = 10 := by decide +kernel
def SfA (f : Nat) : Prop := (1070 ≤ f ∧ f ≤ 1078) ∨ f = 1085 ∨ f = 1086
def SfM (f : Nat) : Prop := 457 ≤ f ∧ f ≤ 465
section Field
variable {A M : Mm} {H : Nat → Nat} {n : Nat}
theorem PR_mono {p q : Nat} (h : PR A M p) (hpq : p ≤ q) : PR A M q := by
  obtain ⟨a, a1, a2, a3⟩ := h.ho
  obtain ⟨b, b1, b2, b3⟩ := h.en
  obtain ⟨c, c1, c2⟩ := h.le
  obtain ⟨d, d1, d2, d3, d4⟩ := h.ma
  exact PR.mk ⟨a, by omega, a2, a3⟩ ⟨b, by omega, b2, b3⟩ ⟨c, by omega, c2⟩ ⟨d, by omega, d2, d3, fun e => by
    obtain ⟨f, t, e1, e2, e3⟩ := d4 e
    exact ⟨f, t, e1, by omega, e3⟩⟩ h.cl h.c2 h.ke h.k2
/-- a field is noted, in both -/
theorem sp_note (fu : Nat) (hfu : 5000 ≤ fu) (hR : RW A) (hW : XW M) (h : HD H n A M) {f c a b p : Nat} (h1 : f ≤ c) (h2 : c ≤ n) (h3 : a ≤ b) (h4 : b < n) (hp : PR A M p) (hbp : b ≤ p + 1) (hpn : p < 5000) :
    ∃ A' M', fX16_field_L155 fu 323 (nI f) (nI c) (nI a) (nI b) A = some (1, A') ∧ fX7_note fu 319 (nI f) (nI c) (nI a) (nI b) M = some M' ∧ FF SfA 323 A A' ∧ FF SfM 319 M M' ∧ PR A' M' (p + 1) := by
  have hn := h.1
  have o := rw_ok323 hR
  have o7 := xw_ok319 hW
  obtain ⟨l5, l6, l7, l8, l9⟩ := tx5
  have TA : ∀ B k, RW B → HD H n B M → k < 50 → fX16_saysSmall fu 323 (nI f) (nI c) (some k) B = some (if eqT smN H f c k then 1 else 0, B) := fun B k hB hH hk => m_saysSmall fu (by omega) hB hH hk h1 h2
  have TX : ∀ k, k < 50 → fX7_isWord fu 319 (nI f) (nI c) (some k) M = some (if eqT smN H f c k then 1 else 0, M) := fun k hk => x_isWord fu (by omega) hW h hk h1 h2
  -- the tests of the reference, step by step
  have S5 : ∀ B, RW B → HD H n B M → fX16_field_L155 fu 323 (nI f) (nI c) (nI a) (nI b) B = if eqT smN H f c 5 then fX16_field_L177 fu 323 (nI f) (nI c) (nI a) (nI b) (sF B 1072 323 ((mF B 1072 323) + 1)) else fX16_field_L177 fu 323 (nI f) (nI c) (nI a) (nI b) B := fun B hB hH => by
    unfold fX16_field_L155
    rw [rc_ok (rw_ok323 hB), ob_some, TA B 5 hB hH (by decide), b2_some, if10, gI_ok (rw_ok323 hB), ob_some, pF_ok (rw_ok323 hB), ob_some]
  have S6 : ∀ B, RW B → HD H n B M → fX16_field_L177 fu 323 (nI f) (nI c) (nI a) (nI b) B = if eqT smN H f c 6 then fX16_field_L194 fu 323 (nI f) (nI c) (nI a) (nI b) (sF B 1078 323 1) else fX16_field_L194 fu 323 (nI f) (nI c) (nI a) (nI b) B := fun B hB hH => by
    unfold fX16_field_L177
    rw [rc_ok (rw_ok323 hB), ob_some, TA B 6 hB hH (by decide), b2_some, if10, pZ_ok (rw_ok323 hB) (Or.inr rfl), ob_some]
  have S7 : ∀ B, RW B → HD H n B M → fX16_field_L194 fu 323 (nI f) (nI c) (nI a) (nI b) B = if eqT smN H f c 7 then (fX16_contentLength fu 323 (nI a) (nI b) B).bind (fun M5 => fX16_field_L214 fu 323 (nI f) (nI c) (nI a) (nI b) M5) else fX16_field_L214 fu 323 (nI f) (nI c) (nI a) (nI b) B := fun B hB hH => by
    unfold fX16_field_L194
    rw [rc_ok (rw_ok323 hB), ob_some, TA B 7 hB hH (by decide), b2_some, if10, rc_ok (rw_ok323 hB), ob_some]
  have S9 : ∀ B, RW B → HD H n B M → fX16_field_L214 fu 323 (nI f) (nI c) (nI a) (nI b) B = if eqT smN H f c 9 then (fX16_words fu 323 (nI a) (nI b) B).bind (fun M5 => fX16_field_L234 fu 323 (nI f) (nI c) (nI a) (nI b) M5) else fX16_field_L234 fu 323 (nI f) (nI c) (nI a) (nI b) B := fun B hB hH => by
    unfold fX16_field_L214
    rw [rc_ok (rw_ok323 hB), ob_some, TA B 9 hB hH (by decide), b2_some, if10, rc_ok (rw_ok323 hB), ob_some]
  have S8 : ∀ B, RW B → HD H n B M → fX16_field_L234 fu 323 (nI f) (nI c) (nI a) (nI b) B = if eqT smN H f c 8 then some (1, sF (sF (sF B 1074 323 ((mF B 1074 323) + 1)) 1085 323 (nI a)) 1086 323 (nI b)) else some (1, B) := fun B hB hH => by
    have oB := rw_ok323 hB
    unfold fX16_field_L234
    rw [rc_ok oB, ob_some, TA B 8 hB hH (by decide), b2_some, if10, gI_ok oB, ob_some, pF_ok oB, ob_some, pF_ok (by rw [ok_sF]; exact oB), ob_some, pF_ok (by rw [ok_sF, ok_sF]; exact oB), ob_some, rN1, rN1]
  have NX : fX7_note fu 319 (nI f) (nI c) (nI a) (nI b) M = if eqT smN H f c 5 then some (sF M 457 319 ((mF M 457 319) + 1)) else if eqT smN H f c 6 then some (sF M 458 319 ((mF M 458 319) + 1)) else if eqT smN H f c 7 then b2 (fX7_decimal fu 319 (nI a) (nI b) (sF M 459 319 ((mF M 459 319) + 1))) (fun v26 M25 => (pF M25 7 460 (some 319) v26).bind fun M27 => some M27) else if eqT smN H f c 8 then some (sF (sF (sF M 461 319 ((mF M 461 319) + 1)) 462 319 (nI a)) 463 319 (nI b)) else if eqT smN H f c 9 then (fX7_noteWords fu 319 (nI a) (nI b) M).bind (fun M17 => some M17) else some M := by
    unfold fX7_note
    rw [rc_ok o7, ob_some, TX 5 (by decide), b2_some, if10]
    by_cases q5 : eqT smN H f c 5
    · rw [if_pos q5, if_pos q5, gI_ok o7, ob_some, pF_ok o7, ob_some]
    · rw [if_neg q5, if_neg q5, rc_ok o7, ob_some, TX 6 (by decide), b2_some, if10]
      by_cases q6 : eqT smN H f c 6
      · rw [if_pos q6, if_pos q6, gI_ok o7, ob_some, pF_ok o7, ob_some]
      · rw [if_neg q6, if_neg q6, rc_ok o7, ob_some, TX 7 (by decide), b2_some, if10]
        by_cases q7 : eqT smN H f c 7
        · rw [if_pos q7, if_pos q7, gI_ok o7, ob_some, pF_ok o7, ob_some, rc_ok (by rw [ok_sF]; exact o7), ob_some]
        · rw [if_neg q7, if_neg q7, rc_ok o7, ob_some, TX 8 (by decide), b2_some, if10]
          by_cases q8 : eqT smN H f c 8
          · rw [if_pos q8, if_pos q8, gI_ok o7, ob_some, pF_ok o7, ob_some, pF_ok (by rw [ok_sF]; exact o7), ob_some, pF_ok (by rw [ok_sF, ok_sF]; exact o7), ob_some]
          · rw [if_neg q8, if_neg q8, rc_ok o7, ob_some, TX 9 (by decide), b2_some, if10]
            by_cases q9 : eqT smN H f c 9
            · rw [if_pos q9, if_pos q9, rc_ok o7, ob_some]
            · rw [if_neg q9, if_neg q9]
  obtain ⟨xh, xh1, xh2, xh3⟩ := hp.ho
  obtain ⟨xe, xe1, xe2, xe3⟩ := hp.en
  obtain ⟨xl, xl1, xl2, xl3, xl4, xl5⟩ := hp.le
  obtain ⟨xm, xm1, xm2, xm3, xm4⟩ := hp.ma
  have xm5 : xm ≠ 0 → ∃ f t, f ≤ t ∧ t ≤ p + 1 ∧ (mF A 1085 323) = nI f ∧ (mF M 462 319) = nI f ∧ (mF A 1086 323) = nI t ∧ (mF M 463 319) = nI t := fun e => by
    obtain ⟨f', t', e1, e2, e3⟩ := xm4 e
    exact ⟨f', t', e1, by omega, e3⟩
  have rest : ∀ B, RW B → HD H n B M → ¬ eqT smN H f c 7 → ¬ eqT smN H f c 9 → ¬ eqT smN H f c 8 → fX16_field_L194 fu 323 (nI f) (nI c) (nI a) (nI b) B = some (1, B) := fun B hB hH y7 y9 y8 => by
    rw [S7 B hB hH, if_neg y7, S9 B hB hH, if_neg y9, S8 B hB hH, if_neg y8]
  by_cases q5 : eqT smN H f c 5
  · have e5 := q5.1
    have n6 : ¬ eqT smN H f c 6 := fun e => by have := e.1; omega
    have n7 : ¬ eqT smN H f c 7 := fun e => by have := e.1; omega
    have n8 : ¬ eqT smN H f c 8 := fun e => by have := e.1; omega
    have n9 : ¬ eqT smN H f c 9 := fun e => by have := e.1; omega
    rw [if_pos q5] at NX
    have hB : RW (sF A 1072 323 ((mF A 1072 323) + 1)) := hR
    have hH : HD H n (sF A 1072 323 ((mF A 1072 323) + 1)) M := h
    refine ⟨sF A 1072 323 ((mF A 1072 323) + 1), _, ?_, NX, FF.s _ (by unfold SfA; omega), FF.s _ (by unfold SfM; omega), ?_⟩
    · rw [S5 A hR h, if_pos q5, S6 _ hB hH, if_neg n6]
      exact rest _ hB hH n7 n9 n8
    · refine PR.mk ⟨xh + 1, by omega, ?_, ?_⟩ ⟨xe, by omega, ?_, ?_⟩ ⟨xl, by omega, ?_⟩ ⟨xm, by omega, ?_⟩ ?_ ?_ ?_ ?_
      · rw [mF_sF, if_pos ⟨rfl, rfl⟩, xh2, nI_1]
      · rw [mF_sF, if_pos ⟨rfl, rfl⟩, xh3, nI_1]
      · rw [mF_sF, if_neg (by omega)]; exact xe2
      · rw [mF_sF, if_neg (by omega)]; exact xe3
      · simp only [mF_sF, Nat.reduceEqDiff, false_and, reduceIte]; exact ⟨xl2, xl3, xl4, xl5⟩
      · simp only [mF_sF, Nat.reduceEqDiff, false_and, reduceIte]; exact ⟨xm2, xm3, xm5⟩
      · simp only [mF_sF, Nat.reduceEqDiff, false_and, reduceIte]; exact hp.cl
      · simp only [mF_sF, Nat.reduceEqDiff, false_and, reduceIte]; exact hp.c2
      · simp only [mF_sF, Nat.reduceEqDiff, false_and, reduceIte]; exact hp.ke
      · simp only [mF_sF, Nat.reduceEqDiff, false_and, reduceIte]; exact hp.k2
  rw [if_neg q5] at NX
  by_cases q6 : eqT smN H f c 6
  · have e6 := q6.1
    have n7 : ¬ eqT smN H f c 7 := fun e => by have := e.1; omega
    have n8 : ¬ eqT smN H f c 8 := fun e => by have := e.1; omega
    have n9 : ¬ eqT smN H f c 9 := fun e => by have := e.1; omega
    rw [if_pos q6] at NX
    have hB : RW (sF A 1078 323 1) := hR
    have hH : HD H n (sF A 1078 323 1) M := h
    refine ⟨sF A 1078 323 1, _, ?_, NX, FF.s _ (by unfold SfA; omega), FF.s _ (by unfold SfM; omega), ?_⟩
    · rw [S5 A hR h, if_neg q5, S6 A hR h, if_pos q6]
      exact rest _ hB hH n7 n9 n8
    · refine PR.mk ⟨xh, by omega, ?_, ?_⟩ ⟨xe + 1, by omega, ?_, ?_⟩ ⟨xl, by omega, ?_⟩ ⟨xm, by omega, ?_⟩ ?_ ?_ ?_ ?_
      · rw [mF_sF, if_neg (by omega)]; exact xh2
      · rw [mF_sF, if_neg (by omega)]; exact xh3
      · rw [mF_sF, if_pos ⟨rfl, rfl⟩, xe2, nI_1]
      · rw [mF_sF, if_pos ⟨rfl, rfl⟩, if_neg (by omega)]
      · simp only [mF_sF, Nat.reduceEqDiff, false_and, reduceIte]; exact ⟨xl2, xl3, xl4, xl5⟩
      · simp only [mF_sF, Nat.reduceEqDiff, false_and, reduceIte]; exact ⟨xm2, xm3, xm5⟩
      · simp only [mF_sF, Nat.reduceEqDiff, false_and, reduceIte]; exact hp.cl
      · simp only [mF_sF, Nat.reduceEqDiff, false_and, reduceIte]; exact hp.c2
      · simp only [mF_sF, Nat.reduceEqDiff, false_and, reduceIte]; exact hp.ke
      · simp only [mF_sF, Nat.reduceEqDiff, false_and, reduceIte]; exact hp.k2
  rw [if_neg q6] at NX
  by_cases q7 : eqT smN H f c 7
  · have e7 := q7.1
    have n8 : ¬ eqT smN H f c 8 := fun e => by have := e.1; omega
    have n9 : ¬ eqT smN H f c 9 := fun e => by have := e.1; omega
    rw [if_pos q7] at NX
    have hWx : XW (sF M 459 319 ((mF M 459 319) + 1)) := hW
    have hHx : HD H n A (sF M 459 319 ((mF M 459 319) + 1)) := h
    have goes : ∀ B, fX16_contentLength fu 323 (nI a) (nI b) A = some B → RW B → HD H n B M → fX16_field_L155 fu 323 (nI f) (nI c) (nI a) (nI b) A = some (1, B) := fun B hB1 hB2 hB3 => by
      rw [S5 A hR h, if_neg q5, S6 A hR h, if_neg q6, S7 A hR h, if_pos q7, hB1, ob_some, S9 B hB2 hB3, if_neg n9, S8 B hB2 hB3, if_neg n8]
    have pr : ∀ (g : Nat) (y z : Int32), (g = 1075 ∨ g = 1076 ∨ g = 1077) → ((g = 1076 ∧ y = 1 ∧ z = -1) ∨ ∃ V, V < 1000000000 ∧ z = nI V ∧ ((65536 < V ∧ g = 1077 ∧ y = 1) ∨ (V ≤ 65536 ∧ g = 1075 ∧ y = nI V))) → PR (sF (sF A 1073 323 ((mF A 1073 323) + 1)) g 323 y) (sF (sF M 459 319 ((mF M 459 319) + 1)) 460 319 z) (p + 1) := fun g y z hg hyz => by
      have a73 : mF (sF (sF A 1073 323 ((mF A 1073 323) + 1)) g 323 y) 1073 323 = nI (xl + 1) := by rw [mF_sF, if_neg (by omega), mF_sF, if_pos ⟨rfl, rfl⟩, xl2, nI_1]
      have m59 : mF (sF (sF M 459 319 ((mF M 459 319) + 1)) 460 319 z) 459 319 = nI (xl + 1) := by rw [mF_sF, if_neg (by omega), mF_sF, if_pos ⟨rfl, rfl⟩, xl3, nI_1]
      have oA : ∀ f, f ≠ 1073 → f ≠ 1075 → f ≠ 1076 → f ≠ 1077 → mF (sF (sF A 1073 323 ((mF A 1073 323) + 1)) g 323 y) f 323 = mF A f 323 := fun f y1 y2 y3 y4 => by clear hyz; rw [mF_sF, if_neg (by omega), mF_sF, if_neg (by omega)]
      have oX : ∀ f, f ≠ 459 → f ≠ 460 → mF (sF (sF M 459 319 ((mF M 459 319) + 1)) 460 319 z) f 319 = mF M f 319 := fun f y1 y2 => by rw [mF_sF, if_neg (by omega), mF_sF, if_neg (by omega)]
      have m60 : mF (sF (sF M 459 319 ((mF M 459 319) + 1)) 460 319 z) 460 319 = z := by rw [mF_sF, if_pos ⟨rfl, rfl⟩]
      have ag : mF (sF (sF A 1073 323 ((mF A 1073 323) + 1)) g 323 y) g 323 = y := by rw [mF_sF, if_pos ⟨rfl, rfl⟩]
      have ao : ∀ f, f ≠ 1073 → f ≠ g → mF (sF (sF A 1073 323 ((mF A 1073 323) + 1)) g 323 y) f 323 = mF A f 323 := fun f y1 y2 => by rw [mF_sF, if_neg (fun e => y2 e.1), mF_sF, if_neg (fun e => y1 e.1)]
      refine PR.mk ⟨xh, by omega, ?_, ?_⟩ ⟨xe, by omega, ?_, ?_⟩ ⟨xl + 1, by omega, a73, m59, fun e => by omega, fun e => ?_⟩ ⟨xm, by omega, ?_, ?_, fun e => ?_⟩ ?_ ?_ ?_ ?_
      · rw [oA _ (by decide) (by decide) (by decide) (by decide)]; exact xh2
      · rw [oX _ (by decide) (by decide)]; exact xh3
      · rw [oX _ (by decide) (by decide)]; exact xe2
      · rw [oA _ (by decide) (by decide) (by decide) (by decide)]; exact xe3
      · obtain ⟨z1, z2, z3, z4⟩ := xl4 (by omega)
        rcases hyz with ⟨w1, w2, w3⟩ | ⟨V, w1, w2, w3⟩
        · left
          subst w1
          rw [ag, m60]
          exact ⟨by rw [w2]; decide, w3⟩
        · right
          refine ⟨?_, V, w1, by rw [m60]; exact w2, ?_⟩
          · rw [ao 1076 (by decide) (by omega)]; exact z1
          · rcases w3 with ⟨u1, u2, u3⟩ | ⟨u1, u2, u3⟩
            · left
              subst u2
              rw [ag]
              exact ⟨u1, by rw [u3]; decide⟩
            · right
              subst u2
              rw [ag, ao 1077 (by decide) (by decide)]
              exact ⟨u1, z2, u3⟩
      · rw [oA _ (by decide) (by decide) (by decide) (by decide)]; exact xm2
      · rw [oX _ (by decide) (by decide)]; exact xm3
      · obtain ⟨f', t', e1, e2, e3, e4, e5, e6⟩ := xm5 e
        exact ⟨f', t', e1, e2, by rw [oA _ (by decide) (by decide) (by decide) (by decide)]; exact e3, by rw [oX _ (by decide) (by decide)]; exact e4, by rw [oA _ (by decide) (by decide) (by decide) (by decide)]; exact e5, by rw [oX _ (by decide) (by decide)]; exact e6⟩
      · rw [oA _ (by decide) (by decide) (by decide) (by decide), oX _ (by decide) (by decide)]; exact hp.cl
      · rw [oA _ (by decide) (by decide) (by decide) (by decide)]; exact hp.c2
      · rw [oA _ (by decide) (by decide) (by decide) (by decide), oX _ (by decide) (by decide)]; exact hp.ke
      · rw [oA _ (by decide) (by decide) (by decide) (by decide)]; exact hp.k2
    have nx : ∀ z, fX7_decimal fu 319 (nI a) (nI b) (sF M 459 319 ((mF M 459 319) + 1)) = some (z, sF M 459 319 ((mF M 459 319) + 1)) → fX7_note fu 319 (nI f) (nI c) (nI a) (nI b) M = some (sF (sF M 459 319 ((mF M 459 319) + 1)) 460 319 z) := fun z hz => by
      rw [NX, hz, b2_some, pF_ok (by rw [ok_sF]; exact o7), ob_some]
    rcases sp_decimal fu hfu hR hWx hHx h3 (by omega) with ⟨d1, d2, V, d3, d4, d5⟩ | ⟨d4, d5⟩
    · by_cases qv : V ≤ 65536
      · rw [if_pos qv] at d4
        exact ⟨_, _, goes _ d4 hR h, nx _ d5, (FF.s _ (by unfold SfA; omega)).tr (FF.s _ (by unfold SfA; omega)), (FF.s _ (by unfold SfM; omega)).tr (FF.s _ (by unfold SfM; omega)), pr 1075 (nI V) (nI V) (by omega) (Or.inr ⟨V, d3, rfl, Or.inr ⟨qv, rfl, rfl⟩⟩)⟩
      · rw [if_neg qv] at d4
        exact ⟨_, _, goes _ d4 hR h, nx _ d5, (FF.s _ (by unfold SfA; omega)).tr (FF.s _ (by unfold SfA; omega)), (FF.s _ (by unfold SfM; omega)).tr (FF.s _ (by unfold SfM; omega)), pr 1077 1 (nI V) (by omega) (Or.inr ⟨V, d3, rfl, Or.inl ⟨by omega, rfl, rfl⟩⟩)⟩
    · exact ⟨_, _, goes _ d4 hR h, nx _ d5, (FF.s _ (by unfold SfA; omega)).tr (FF.s _ (by unfold SfA; omega)), (FF.s _ (by unfold SfM; omega)).tr (FF.s _ (by unfold SfM; omega)), pr 1076 1 (-1) (by omega) (Or.inl ⟨rfl, rfl, rfl⟩)⟩
  rw [if_neg q7] at NX
  by_cases q8 : eqT smN H f c 8
  · have e8 := q8.1
    have n9 : ¬ eqT smN H f c 9 := fun e => by have := e.1; omega
    rw [if_pos q8] at NX
    refine ⟨sF (sF (sF A 1074 323 ((mF A 1074 323) + 1)) 1085 323 (nI a)) 1086 323 (nI b), _, ?_, NX, ((FF.s _ (by unfold SfA; omega)).tr (FF.s _ (by unfold SfA; omega))).tr (FF.s _ (by unfold SfA; omega)), ((FF.s _ (by unfold SfM; omega)).tr (FF.s _ (by unfold SfM; omega))).tr (FF.s _ (by unfold SfM; omega)), ?_⟩
    · rw [S5 A hR h, if_neg q5, S6 A hR h, if_neg q6, S7 A hR h, if_neg q7, S9 A hR h, if_neg n9, S8 A hR h, if_pos q8]
    · refine PR.mk ⟨xh, by omega, ?_⟩ ⟨xe, by omega, ?_⟩ ⟨xl, by omega, ?_⟩ ⟨xm + 1, by omega, ?_, ?_, fun _ => ⟨a, b, h3, hbp, ?_, ?_, ?_, ?_⟩⟩ ?_ ?_ ?_ ?_
      · simp only [mF_sF, Nat.reduceEqDiff, false_and, reduceIte]; exact ⟨xh2, xh3⟩
      · simp only [mF_sF, Nat.reduceEqDiff, false_and, reduceIte]; exact ⟨xe2, xe3⟩
      · simp only [mF_sF, Nat.reduceEqDiff, false_and, reduceIte]; exact ⟨xl2, xl3, xl4, xl5⟩
      · rw [mF_sF, if_neg (by omega), mF_sF, if_neg (by omega), mF_sF, if_pos ⟨rfl, rfl⟩, xm2, nI_1]
      · rw [mF_sF, if_neg (by omega), mF_sF, if_neg (by omega), mF_sF, if_pos ⟨rfl, rfl⟩, xm3, nI_1]
      · rw [mF_sF, if_neg (by omega), mF_sF, if_pos ⟨rfl, rfl⟩]
      · rw [mF_sF, if_neg (by omega), mF_sF, if_pos ⟨rfl, rfl⟩]
      · rw [mF_sF, if_pos ⟨rfl, rfl⟩]
      · rw [mF_sF, if_pos ⟨rfl, rfl⟩]
      · simp only [mF_sF, Nat.reduceEqDiff, false_and, reduceIte]; exact hp.cl
      · simp only [mF_sF, Nat.reduceEqDiff, false_and, reduceIte]; exact hp.c2
      · simp only [mF_sF, Nat.reduceEqDiff, false_and, reduceIte]; exact hp.ke
      · simp only [mF_sF, Nat.reduceEqDiff, false_and, reduceIte]; exact hp.k2
  rw [if_neg q8] at NX
  by_cases q9 : eqT smN H f c 9
  · rw [if_pos q9] at NX
    obtain ⟨A', M', w1, w2, w3, w4, w5, w6, w7, w8⟩ := sp_words fu hfu (t := b) h4 (b + 1 - a) a a (fu - 1) (fu - 1) A M (by omega) (Nat.le_refl _) (by omega) (by omega) hR hW h hp.cl hp.c2 hp.ke hp.k2
    rw [show fu - 1 + 1 = fu by omega] at w1 w2
    have hB : RW A' := w3.rW hR
    have hH : HD H n A' M := h.ff w3 (FF.rf (S := fun _ => False) (o := 0))
    have wA' : ∀ f, f ≠ 1070 → f ≠ 1071 → mF A' f 323 = mF A f 323 := fun f y1 y2 => w3.2.2.2.2 f _ (fun e => by omega)
    have wM' : ∀ f, f ≠ 464 → f ≠ 465 → mF M' f 319 = mF M f 319 := fun f y1 y2 => w4.2.2.2.2 f _ (fun e => by omega)
    refine ⟨A', M', ?_, by rw [NX]; unfold fX7_noteWords; rw [w2, ob_some], w3.mono (fun f e => by unfold SfA; omega), w4.mono (fun f e => by unfold SfM; omega), ?_⟩
    · rw [S5 A hR h, if_neg q5, S6 A hR h, if_neg q6, S7 A hR h, if_neg q7, S9 A hR h, if_pos q9]
      unfold fX16_words
      rw [w1, ob_some, S8 A' hB hH, if_neg q8]
    · refine PR.mk ⟨xh, by omega, ?_⟩ ⟨xe, by omega, ?_⟩ ⟨xl, by omega, ?_⟩ ⟨xm, by omega, ?_⟩ w5 w6 w7 w8
      · rw [wA' _ (by decide) (by decide), wM' _ (by decide) (by decide)]; exact ⟨xh2, xh3⟩
      · rw [wA' _ (by decide) (by decide), wM' _ (by decide) (by decide)]; exact ⟨xe2, xe3⟩
      · rw [wA' 1073 (by decide) (by decide), wA' 1076 (by decide) (by decide), wA' 1077 (by decide) (by decide), wA' 1075 (by decide) (by decide), wM' 459 (by decide) (by decide), wM' 460 (by decide) (by decide)]; exact ⟨xl2, xl3, xl4, xl5⟩
      · rw [wA' 1074 (by decide) (by decide), wA' 1085 (by decide) (by decide), wA' 1086 (by decide) (by decide), wM' 461 (by decide) (by decide), wM' 462 (by decide) (by decide), wM' 463 (by decide) (by decide)]; exact ⟨xm2, xm3, xm5⟩
  · rw [if_neg q9] at NX
    refine ⟨A, M, ?_, NX, FF.rf, FF.rf, PR_mono hp (by omega)⟩
    rw [S5 A hR h, if_neg q5, S6 A hR h, if_neg q6, S7 A hR h, if_neg q7, S9 A hR h, if_neg q9, S8 A hR h, if_neg q8]
end Field
