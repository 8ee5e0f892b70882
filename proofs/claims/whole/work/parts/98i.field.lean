/-! ===== part 98i: fields: words and numbers, in both ===== -/
section Words
variable {A M : Mm} {H : Nat → Nat} {n : Nat}
/-- fields that the notes of a request may change -/
def NfA (P : Nat → Prop) (A A' : Mm) : Prop := mS A' = mS A ∧ mG A' = mG A ∧ mB A' = mB A ∧ mA A' = mA A ∧ ∀ f a, ¬ (P f ∧ a = 323) → mF A' f a = mF A f a
def NfM (P : Nat → Prop) (M M' : Mm) : Prop := mS M' = mS M ∧ mG M' = mG M ∧ mB M' = mB M ∧ mA M' = mA M ∧ ∀ f a, ¬ (P f ∧ a = 319) → mF M' f a = mF M f a
theorem NfA.ff {P : Nat → Prop} {A A' : Mm} (h : FF P 323 A A') : NfA P A A' := h
theorem NfM.ff {P : Nat → Prop} {M M' : Mm} (h : FF P 319 M M') : NfM P M M' := h
theorem HD.ff {P Q : Nat → Prop} {o o' : Nat} {A' M' : Mm} (h : HD H n A M) (fA : FF P o A A') (fM : FF Q o' M M') : HD H n A' M' := by
  unfold HD
  rw [fA.2.2.2.1, fM.2.2.2.1]
  exact h
/-- a word ends here -/
abbrev wEnd (H : Nat → Nat) (t k : Nat) : Prop := k = t ∨ H k = 44 ∨ H k = 32 ∨ H k = 9
theorem sp_words (fu : Nat) (hfu : 5000 ≤ fu) {t : Nat} (ht : t < n) : ∀ (j k b m m2 : Nat) (A M : Mm), k + j = t + 1 → b ≤ k → j ≤ m → j ≤ m2 → RW A → XW M → HD H n A M → (mF A 1070 323) = (mF M 464 319) → ((mF A 1070 323) = 0 ∨ (mF A 1070 323) = 1) → (mF A 1071 323) = (mF M 465 319) → ((mF A 1071 323) = 0 ∨ (mF A 1071 323) = 1) →
    ∃ A' M', fX16_words_L5 fu (m + 1) 323 (nI t) (nI b) (nI k) A = some A' ∧ fX7_noteWords_L5 fu (m2 + 1) 319 (nI t) (nI b) (nI k) M = some M' ∧ FF (fun f => f = 1070 ∨ f = 1071) 323 A A' ∧ FF (fun f => f = 464 ∨ f = 465) 319 M M' ∧ (mF A' 1070 323) = (mF M' 464 319) ∧ ((mF A' 1070 323) = 0 ∨ (mF A' 1070 323) = 1) ∧ (mF A' 1071 323) = (mF M' 465 319) ∧ ((mF A' 1071 323) = 0 ∨ (mF A' 1071 323) = 1) := by
  intro j
  induction j with
  | zero =>
    intro k b m m2 A M h1 h2 h3 h4 hR hW h c1 c2 k1 k2
    have hn := h.1
    refine ⟨A, M, ?_, ?_, FF.rf, FF.rf, c1, c2, k1, k2⟩
    · rw [fX16_words_L5, if_pos (nI_lt (by omega) (by omega))]
    · rw [fX7_noteWords_L5, if_pos (nI_lt (by omega) (by omega))]
  | succ j ih =>
    intro k b m m2 A M h1 h2 h3 h4 hR hW h c1 c2 k1 k2
    have hn := h.1
    have o := rw_ok323 hR
    have o7 := xw_ok319 hW
    have g5 := xw_g450_319 hW
    have kt : k ≤ t := by omega
    have hk := h.2.1 k
    have nlt : ¬ nI t < nI k := nI_nlt kt (by omega)
    have em : m = (m - 1) + 1 := by omega
    have em2 : m2 = (m2 - 1) + 1 := by omega
    by_cases q : wEnd H t k
    · -- a word is looked at
      have ra : fX16_words_L5 fu (m + 1) 323 (nI t) (nI b) (nI k) A = fX16_words_L40 fu (fun b0 b2 b3 b4 M => fX16_words_L5 fu m b0 b2 b3 b4 M) 323 (nI t) (nI b) (nI k) A := by
        rw [fX16_words_L5, if_neg nlt]
        by_cases e : k = t
        · rw [if_pos (by rw [e])]
        · rw [if_neg (fun e2 => e ((nI_eq (by omega) (by omega)).mp e2)), rc_ok o, ob_some, m_headAt fu hR h (by omega), b2_some]
          by_cases e2 : H k = 44
          · rw [if_pos (show nI (H k) = (44 : Int32) by rw [e2]; rfl)]
          · rw [if_neg (show ¬ nI (H k) = (44 : Int32) from fun e3 => e2 ((nI_eq (b := 44) (by omega) (by decide)).mp e3)), rc_ok o, ob_some, m_headAt fu hR h (by omega), b2_some, m_blank fu hk, b2_some, if10, if_pos (q.elim (fun z => absurd z e) (fun z => z.elim (fun y => absurd y e2) id))]
      have rx : fX7_noteWords_L5 fu (m2 + 1) 319 (nI t) (nI b) (nI k) M = fX7_noteWords_L49 fu (fun b0 b2 b3 b4 M => fX7_noteWords_L5 fu m2 b0 b2 b3 b4 M) 319 (nI t) (nI b) (nI k) M := by
        rw [fX7_noteWords_L5, if_neg nlt]
        by_cases e : k = t
        · rw [if_pos (nI_le (by omega) (by omega))]
        · rw [if_neg (nI_ge (by omega) (by omega)), gR_ok o7, ob_some, g5, x_oneH fu hW h (by omega), b2_some]
          by_cases e2 : H k = 44
          · rw [if_pos (show nI (H k) = (44 : Int32) by rw [e2]; rfl)]
          · rw [if_neg (show ¬ nI (H k) = (44 : Int32) from fun e3 => e2 ((nI_eq (b := 44) (by omega) (by decide)).mp e3)), gR_ok o7, ob_some, g5, x_oneH fu hW h (by omega), b2_some, x_blank fu hk, b2_some, if10, if_pos (q.elim (fun z => absurd z e) (fun z => z.elim (fun y => absurd y e2) id))]
      -- close
      obtain ⟨A1, s1, s2, s3⟩ : ∃ A1, fX16_words_L40 fu (fun b0 b2 b3 b4 M => fX16_words_L5 fu m b0 b2 b3 b4 M) 323 (nI t) (nI b) (nI k) A = fX16_words_L58 fu (fun b0 b2 b3 b4 M => fX16_words_L5 fu m b0 b2 b3 b4 M) 323 (nI t) (nI b) (nI k) A1 ∧ FF (fun f => f = 1070) 323 A A1 ∧ (mF A1 1070 323) = (if eqT smN H b k 10 then 1 else (mF A 1070 323)) := by
        unfold fX16_words_L40
        rw [rc_ok o, ob_some, m_saysSmall fu (by omega) hR h (by decide) h2 (by omega), b2_some, if10]
        by_cases e : eqT smN H b k 10
        · rw [if_pos e, if_pos e, pZ_ok o (Or.inr rfl), ob_some]
          exact ⟨_, rfl, FF.s _ rfl, by rw [mF_sF, if_pos ⟨rfl, rfl⟩]⟩
        · rw [if_neg e, if_neg e]
          exact ⟨A, rfl, FF.rf, rfl⟩
      obtain ⟨M1, t1, t2, t3⟩ : ∃ M1, fX7_noteWords_L49 fu (fun b0 b2 b3 b4 M => fX7_noteWords_L5 fu m2 b0 b2 b3 b4 M) 319 (nI t) (nI b) (nI k) M = (gI M1 7 465 (some 319)).bind (fun v2 => if v2 = 0 then (rc M1 7 (some 319)).bind fun q3 => b2 (fX7_isWord fu q3 (nI b) (nI k) (some 11) M1) fun v5 M4 => if v5 = 0 then fX7_noteWords_L102 fu (fun b0 b2 b3 b4 M => fX7_noteWords_L5 fu m2 b0 b2 b3 b4 M) 319 (nI t) (nI k) (some 319) (0 : Int32) M4 else fX7_noteWords_L97 fu (fun b0 b2 b3 b4 M => fX7_noteWords_L5 fu m2 b0 b2 b3 b4 M) 319 (nI t) (nI k) (some 319) M4 else fX7_noteWords_L97 fu (fun b0 b2 b3 b4 M => fX7_noteWords_L5 fu m2 b0 b2 b3 b4 M) 319 (nI t) (nI k) (some 319) M1) ∧ FF (fun f => f = 464) 319 M M1 ∧ (mF M1 464 319) = (if eqT smN H b k 10 then 1 else (mF A 1070 323)) := by
        unfold fX7_noteWords_L49 fX7_noteWords_L69 fX7_noteWords_L74
        rw [gI_ok o7, ob_some, ← c1, rc_ok o7, ob_some, x_isWord fu (by omega) hW h (by decide) h2 (by omega), b2_some, if10, pZ_ok o7 (Or.inl rfl), ob_some, pZ_ok o7 (Or.inr rfl), ob_some]
        by_cases e : eqT smN H b k 10
        · rw [if_pos e, if_pos e, ite_self]
          exact ⟨_, rfl, FF.s _ rfl, by rw [mF_sF, if_pos ⟨rfl, rfl⟩]⟩
        · rw [if_neg e, if_neg e]
          rcases c2 with z | z
          · rw [if_pos z]
            exact ⟨_, rfl, FF.s _ rfl, by rw [mF_sF, if_pos ⟨rfl, rfl⟩, z]⟩
          · rw [if_neg (by rw [z]; decide)]
            exact ⟨_, rfl, FF.s _ rfl, by rw [mF_sF, if_pos ⟨rfl, rfl⟩, z]⟩
      have hR1 := s2.rW hR
      have hW1 := t2.xW hW
      have h1' : HD H n A1 M1 := h.ff s2 t2
      have o1 := rw_ok323 hR1
      have p7 := xw_ok319 hW1
      have ke1 : (mF A1 1071 323) = (mF A 1071 323) := s2.2.2.2.2 _ _ (by omega)
      have kx1 : (mF M1 465 319) = (mF A 1071 323) := (t2.2.2.2.2 _ _ (by omega)).trans k1.symm
      obtain ⟨A2, s4, s5, s6⟩ : ∃ A2, fX16_words_L58 fu (fun b0 b2 b3 b4 M => fX16_words_L5 fu m b0 b2 b3 b4 M) 323 (nI t) (nI b) (nI k) A1 = fX16_words_L5 fu m 323 (nI t) (nI (k + 1)) (nI (k + 1)) A2 ∧ FF (fun f => f = 1071) 323 A1 A2 ∧ (mF A2 1071 323) = (if eqT smN H b k 11 then 1 else (mF A 1071 323)) := by
        unfold fX16_words_L58 fX16_words_L76 fX16_words_L81
        rw [rc_ok o1, ob_some, m_saysSmall fu (by omega) hR1 h1' (by decide) h2 (by omega), b2_some, if10, nI_1]
        by_cases e : eqT smN H b k 11
        · rw [if_pos e, if_pos e, pZ_ok o1 (Or.inr rfl), ob_some]
          exact ⟨_, rfl, FF.s _ rfl, by rw [mF_sF, if_pos ⟨rfl, rfl⟩]⟩
        · rw [if_neg e, if_neg e]
          exact ⟨A1, rfl, FF.rf, ke1⟩
      obtain ⟨M2, t4, t5, t6⟩ : ∃ M2, (gI M1 7 465 (some 319)).bind (fun v2 => if v2 = 0 then (rc M1 7 (some 319)).bind fun q3 => b2 (fX7_isWord fu q3 (nI b) (nI k) (some 11) M1) fun v5 M4 => if v5 = 0 then fX7_noteWords_L102 fu (fun b0 b2 b3 b4 M => fX7_noteWords_L5 fu m2 b0 b2 b3 b4 M) 319 (nI t) (nI k) (some 319) (0 : Int32) M4 else fX7_noteWords_L97 fu (fun b0 b2 b3 b4 M => fX7_noteWords_L5 fu m2 b0 b2 b3 b4 M) 319 (nI t) (nI k) (some 319) M4 else fX7_noteWords_L97 fu (fun b0 b2 b3 b4 M => fX7_noteWords_L5 fu m2 b0 b2 b3 b4 M) 319 (nI t) (nI k) (some 319) M1) = fX7_noteWords_L5 fu m2 319 (nI t) (nI (k + 1)) (nI (k + 1)) M2 ∧ FF (fun f => f = 465) 319 M1 M2 ∧ (mF M2 465 319) = (if eqT smN H b k 11 then 1 else (mF A 1071 323)) := by
        unfold fX7_noteWords_L97 fX7_noteWords_L102 fX7_noteWords_L110
        rw [gI_ok p7, ob_some, kx1, rc_ok p7, ob_some, x_isWord fu (by omega) hW1 h1' (by decide) h2 (by omega), b2_some, if10, pZ_ok p7 (Or.inl rfl), ob_some, pZ_ok p7 (Or.inr rfl), ob_some, nI_1]
        by_cases e : eqT smN H b k 11
        · rw [if_pos e, if_pos e, ite_self]
          exact ⟨_, rfl, FF.s _ rfl, by rw [mF_sF, if_pos ⟨rfl, rfl⟩]⟩
        · rw [if_neg e, if_neg e]
          rcases k2 with z | z
          · rw [if_pos z]
            exact ⟨_, rfl, FF.s _ rfl, by rw [mF_sF, if_pos ⟨rfl, rfl⟩, z]⟩
          · rw [if_neg (by rw [z]; decide)]
            exact ⟨_, rfl, FF.s _ rfl, by rw [mF_sF, if_pos ⟨rfl, rfl⟩, z]⟩
      have c3 : (if eqT smN H b k 10 then (1 : Int32) else (mF A 1070 323)) = 0 ∨ (if eqT smN H b k 10 then (1 : Int32) else (mF A 1070 323)) = 1 := by
        by_cases e : eqT smN H b k 10
        · rw [if_pos e]; exact Or.inr rfl
        · rw [if_neg e]; exact c2
      have k3 : (if eqT smN H b k 11 then (1 : Int32) else (mF A 1071 323)) = 0 ∨ (if eqT smN H b k 11 then (1 : Int32) else (mF A 1071 323)) = 1 := by
        by_cases e : eqT smN H b k 11
        · rw [if_pos e]; exact Or.inr rfl
        · rw [if_neg e]; exact k2
      have x1 : (mF A2 1070 323) = (if eqT smN H b k 10 then 1 else (mF A 1070 323)) := (s5.2.2.2.2 _ _ (by omega)).trans s3
      have x2 : (mF M2 464 319) = (if eqT smN H b k 10 then 1 else (mF A 1070 323)) := (t5.2.2.2.2 _ _ (by omega)).trans t3
      obtain ⟨A', M', r1, r2, r3, r4, r5⟩ := ih (k + 1) (k + 1) (m - 1) (m2 - 1) A2 M2 (by omega) (Nat.le_refl _) (by omega) (by omega) (s5.rW hR1) (t5.xW hW1) (h1'.ff s5 t5) (x1.trans x2.symm) (by rw [x1]; exact c3) (s6.trans t6.symm) (by rw [s6]; exact k3)
      rw [← em] at r1
      rw [← em2] at r2
      refine ⟨A', M', by rw [ra, s1, s4]; exact r1, by rw [rx, t1, t4]; exact r2, ?_, ?_, r5⟩
      · exact ((s2.mono (fun f e => Or.inl e)).tr (s5.mono (fun f e => Or.inr e))).tr r3
      · exact ((t2.mono (fun f e => Or.inl e)).tr (t5.mono (fun f e => Or.inr e))).tr r4
    · have e : ¬ k = t := fun z => q (Or.inl z)
      have e2 : ¬ H k = 44 := fun z => q (Or.inr (Or.inl z))
      have e3 : ¬ (H k = 32 ∨ H k = 9) := fun z => q (Or.inr (Or.inr z))
      have ra : fX16_words_L5 fu (m + 1) 323 (nI t) (nI b) (nI k) A = fX16_words_L5 fu m 323 (nI t) (nI b) (nI (k + 1)) A := by
        rw [fX16_words_L5, if_neg nlt, if_neg (fun e2 => e ((nI_eq (by omega) (by omega)).mp e2)), rc_ok o, ob_some, m_headAt fu hR h (by omega), b2_some, if_neg (show ¬ nI (H k) = (44 : Int32) from fun e3 => e2 ((nI_eq (b := 44) (by omega) (by decide)).mp e3)), rc_ok o, ob_some, m_headAt fu hR h (by omega), b2_some, m_blank fu hk, b2_some, if10, if_neg e3]
        unfold fX16_words_L81
        rw [nI_1]
      have rx : fX7_noteWords_L5 fu (m2 + 1) 319 (nI t) (nI b) (nI k) M = fX7_noteWords_L5 fu m2 319 (nI t) (nI b) (nI (k + 1)) M := by
        rw [fX7_noteWords_L5, if_neg nlt, if_neg (nI_ge (by omega) (by omega)), gR_ok o7, ob_some, g5, x_oneH fu hW h (by omega), b2_some, if_neg (show ¬ nI (H k) = (44 : Int32) from fun e3 => e2 ((nI_eq (b := 44) (by omega) (by decide)).mp e3)), gR_ok o7, ob_some, g5, x_oneH fu hW h (by omega), b2_some, x_blank fu hk, b2_some, if10, if_neg e3]
        unfold fX7_noteWords_L110
        rw [nI_1]
      obtain ⟨A', M', r1, r2, r3⟩ := ih (k + 1) b (m - 1) (m2 - 1) A M (by omega) (by omega) (by omega) (by omega) hR hW h c1 c2 k1 k2
      rw [← em] at r1
      rw [← em2] at r2
      exact ⟨A', M', ra.trans r1, rx.trans r2, r3⟩
/-- the number of digits -/
def dgV (H : Nat → Nat) (f : Nat) : Nat → Nat
  | 0 => 0
  | j + 1 => 10 * dgV H f j + (H (f + j) - 48)
theorem dgV_s (H : Nat → Nat) (f j : Nat) : dgV H f (j + 1) = 10 * dgV H f j + (H (f + j) - 48) := rfl
theorem dgV_lt {H : Nat → Nat} {f : Nat} : ∀ j, (∀ i, i < j → 48 ≤ H (f + i) ∧ H (f + i) ≤ 57) → dgV H f j < 10 ^ j
  | 0, _ => show (0 : Nat) < 1 by decide
  | j + 1, h => by
    have h1 := dgV_lt (H := H) (f := f) j (fun i hi => h i (by omega))
    have h2 := h j (by omega)
    unfold dgV
    rw [Nat.pow_succ]
    omega
/-- a length, in both -/
theorem sp_decimal (fu : Nat) (hfu : 5000 ≤ fu) (hR : RW A) (hW : XW M) (h : HD H n A M) {f t : Nat} (h1 : f ≤ t) (h2 : t ≤ n) :
    (1 ≤ t - f ∧ t - f ≤ 9 ∧ ∃ V, V < 1000000000 ∧ fX16_contentLength fu 323 (nI f) (nI t) A = (if V ≤ 65536 then some (sF (sF A 1073 323 ((mF A 1073 323) + 1)) 1075 323 (nI V)) else some (sF (sF A 1073 323 ((mF A 1073 323) + 1)) 1077 323 1)) ∧ fX7_decimal fu 319 (nI f) (nI t) M = some (nI V, M)) ∨
    (fX16_contentLength fu 323 (nI f) (nI t) A = some (sF (sF A 1073 323 ((mF A 1073 323) + 1)) 1076 323 1) ∧ fX7_decimal fu 319 (nI f) (nI t) M = some (-1, M)) := by
  have hn := h.1
  have o := rw_ok323 hR
  have o7 := xw_ok319 hW
  have g5 := xw_g450_319 hW
  have hb : ∀ i, H i < 256 := h.2.1
  have e1 : nI t - nI f = nI (t - f) := nI_sub h1
  unfold fX16_contentLength fX16_contentLength_L31 fX16_contentLength_L32 fX7_decimal
  rw [gI_ok o, ob_some, pF_ok o, ob_some, e1]
  generalize hA1 : sF A 1073 323 ((mF A 1073 323) + 1) = A1
  have hR1 : RW A1 := by subst hA1; exact hR
  have hH1 : HD H n A1 M := by subst hA1; exact h
  have o1 := rw_ok323 hR1
  have L80z : ∀ x, fX16_contentLength_L80 fu 323 x 0 A1 = some (sF A1 1076 323 1) := fun x => by
    unfold fX16_contentLength_L80
    rw [if_pos rfl, pZ_ok o1 (Or.inr rfl), ob_some]
  have zero : fX16_contentLength_L37 fu fu 323 (nI t) 0 0 (nI f) A1 = some (sF A1 1076 323 1) := by
    rw [show fu = (fu - 1) + 1 by omega, fX16_contentLength_L37, if_pos rfl, ite_self, ← show fu = (fu - 1) + 1 by omega]
    exact L80z 0
  by_cases p1 : t - f < 1
  · right
    rw [if_pos (show nI (t - f) < (1 : Int32) from nI_lt (b := 1) p1 (by decide)), if_pos (nI_le (by omega) (by omega))]
    exact ⟨zero, rfl⟩
  rw [if_neg (show ¬ nI (t - f) < (1 : Int32) from nI_nlt (b := 1) (by omega) (by omega)), if_neg (nI_ge (by omega) (by omega))]
  by_cases p2 : 9 < t - f
  · right
    rw [if_pos (show (9 : Int32) < nI (t - f) from nI_lt (a := 9) p2 (by omega)), if_neg (show ¬ nI (t - f) ≤ (9 : Int32) from nI_ge (a := 9) p2 (by omega))]
    exact ⟨zero, rfl⟩
  rw [if_neg (show ¬ (9 : Int32) < nI (t - f) from nI_nlt (a := 9) (by omega) (by omega)), if_pos (show nI (t - f) ≤ (9 : Int32) from nI_le (b := 9) (by omega) (by decide))]
  -- the loops, as long as there are digits
  have p9 : ∀ j, j ≤ 9 → (10 : Nat) ^ j ≤ 1000000000 := fun j hj => Nat.pow_le_pow_right (n := 10) (by decide) hj
  have stepA : ∀ m j, j < t - f → (∀ i, i < j + 1 → 48 ≤ H (f + i) ∧ H (f + i) ≤ 57) → fX16_contentLength_L37 fu (m + 1) 323 (nI t) (nI (dgV H f j)) 1 (nI (f + j)) A1 = fX16_contentLength_L37 fu m 323 (nI t) (nI (dgV H f (j + 1))) 1 (nI (f + (j + 1))) A1 := fun m j hj hd => by
    have h0 := hd j (by omega)
    have hl := dgV_lt (H := H) (f := f) j (fun i hi => hd i (by omega))
    have := p9 j (by omega)
    have hx := hb (f + j)
    rw [fX16_contentLength_L37, if_neg (nI_ge (by omega) (by omega)), if_neg (by decide), rc_ok o1, ob_some, m_headAt fu hR1 hH1 (by omega), b2_some, m_digit fu hx, b2_some, if_pos h0, rc_ok o1, ob_some, m_headAt fu hR1 hH1 (by omega), b2_some, ob_some]
    have ev : (10 : Int32) * nI (dgV H f j) + nI (H (f + j)) - (48 : Int32) = nI (dgV H f (j + 1)) := by
      rw [show (10 : Int32) = nI 10 from rfl, pk_mul, nI_add, show (48 : Int32) = nI 48 from rfl, nI_sub (by omega)]
      rw [dgV_s]
      congr 1
      omega
    rw [ev, nI_1, Nat.add_assoc]
  have stepX : ∀ m j, j < t - f → (∀ i, i < j + 1 → 48 ≤ H (f + i) ∧ H (f + i) ≤ 57) → fX7_decimal_L20 fu (m + 1) 319 (nI t) (nI (dgV H f j)) (nI (f + j)) M = fX7_decimal_L20 fu m 319 (nI t) (nI (dgV H f (j + 1))) (nI (f + (j + 1))) M := fun m j hj hd => by
    have h0 := hd j (by omega)
    have hl := dgV_lt (H := H) (f := f) j (fun i hi => hd i (by omega))
    have := p9 j (by omega)
    have hx := hb (f + j)
    have e48 : nI (H (f + j)) - (48 : Int32) = nI (H (f + j) - 48) := nI_sub (y := 48) (by omega)
    rw [fX7_decimal_L20, if_neg (nI_ge (by omega) (by omega)), gR_ok o7, ob_some, g5, x_oneH fu hW h (by omega), b2_some, e48, if_neg (nI_pos (by omega)), if_pos (show nI (H (f + j) - 48) ≤ (9 : Int32) from nI_le (b := 9) (by omega) (by decide)), ob_some]
    have ev : nI (dgV H f j) * (10 : Int32) + nI (H (f + j) - 48) = nI (dgV H f (j + 1)) := by
      rw [show (10 : Int32) = nI 10 from rfl, pk_mul, nI_add]
      rw [dgV_s]
      congr 1
      omega
    rw [ev, nI_1, Nat.add_assoc]
  rcases fst_or (fun j => ¬ (48 ≤ H (f + j) ∧ H (f + j) ≤ 57)) (t - f) with ⟨k, k1, k2, k3⟩ | hno
  · right
    have hd : ∀ i, i < k → 48 ≤ H (f + i) ∧ H (f + i) ≤ 57 := fun i hi => Classical.not_not.mp (k3 i hi)
    have hx := hb (f + k)
    have lA := lp (fun m j => fX16_contentLength_L37 fu m 323 (nI t) (nI (dgV H f j)) 1 (nI (f + j)) A1) (i := 0) (k := k) (by omega) (fun m j _ hj => stepA m j (by omega) (fun i hi => hd i (by omega))) (fu - k)
    have lX := lp (fun m j => fX7_decimal_L20 fu m 319 (nI t) (nI (dgV H f j)) (nI (f + j)) M) (i := 0) (k := k) (by omega) (fun m j _ hj => stepX m j (by omega) (fun i hi => hd i (by omega))) (fu - k)
    rw [show fu - k + (k - 0) = fu by omega] at lA lX
    refine ⟨?_, ?_⟩
    · refine lA.trans ?_
      show fX16_contentLength_L37 fu (fu - k) 323 (nI t) (nI (dgV H f k)) 1 (nI (f + k)) A1 = _
      rw [show fu - k = (fu - k - 2) + 1 + 1 by omega, fX16_contentLength_L37, if_neg (nI_ge (by omega) (by omega)), if_neg (by decide), rc_ok o1, ob_some, m_headAt fu hR1 hH1 (by omega), b2_some, m_digit fu hx, b2_some, if_neg k2, rc_ok o1, ob_some, m_headAt fu hR1 hH1 (by omega), b2_some, ob_some, fX16_contentLength_L37, if_pos rfl, ite_self]
      exact L80z _
    · refine lX.trans ?_
      show fX7_decimal_L20 fu (fu - k) 319 (nI t) (nI (dgV H f k)) (nI (f + k)) M = _
      rw [show fu - k = (fu - k - 1) + 1 by omega, fX7_decimal_L20, if_neg (nI_ge (by omega) (by omega)), gR_ok o7, ob_some, g5, x_oneH fu hW h (by omega), b2_some]
      by_cases y : H (f + k) < 48
      · rw [if_pos (show nI (H (f + k)) - (48 : Int32) < 0 from pk_sneg (b := 48) (by decide) y)]
      · have e48 : nI (H (f + k)) - (48 : Int32) = nI (H (f + k) - 48) := nI_sub (y := 48) (by omega)
        rw [e48, if_neg (nI_pos (by omega)), if_neg (show ¬ nI (H (f + k) - 48) ≤ (9 : Int32) from nI_ge (a := 9) (by omega) (by omega))]
  · left
    have hd : ∀ i, i < t - f → 48 ≤ H (f + i) ∧ H (f + i) ≤ 57 := fun i hi => Classical.not_not.mp (hno i hi)
    have hl := dgV_lt (H := H) (f := f) (t - f) hd
    have := p9 (t - f) (by omega)
    have lA := lp (fun m j => fX16_contentLength_L37 fu m 323 (nI t) (nI (dgV H f j)) 1 (nI (f + j)) A1) (i := 0) (k := t - f) (by omega) (fun m j _ hj => stepA m j (by omega) (fun i hi => hd i (by omega))) (fu - (t - f))
    have lX := lp (fun m j => fX7_decimal_L20 fu m 319 (nI t) (nI (dgV H f j)) (nI (f + j)) M) (i := 0) (k := t - f) (by omega) (fun m j _ hj => stepX m j (by omega) (fun i hi => hd i (by omega))) (fu - (t - f))
    rw [show fu - (t - f) + (t - f - 0) = fu by omega] at lA lX
    refine ⟨by omega, by omega, dgV H f (t - f), by omega, ?_, ?_⟩
    · refine lA.trans ?_
      show fX16_contentLength_L37 fu (fu - (t - f)) 323 (nI t) (nI (dgV H f (t - f))) 1 (nI (f + (t - f))) A1 = _
      rw [show fu - (t - f) = (fu - (t - f) - 1) + 1 by omega, fX16_contentLength_L37, if_pos (nI_le (by omega) (by omega))]
      unfold fX16_contentLength_L80
      rw [if_neg (by decide)]
      by_cases y : dgV H f (t - f) ≤ 65536
      · rw [if_pos (show nI (dgV H f (t - f)) ≤ (65536 : Int32) from nI_le (b := 65536) y (by decide)), if_pos y, pF_ok o1, ob_some]
      · rw [if_neg (show ¬ nI (dgV H f (t - f)) ≤ (65536 : Int32) from nI_ge (a := 65536) (by omega) (by omega)), if_neg y, pZ_ok o1 (Or.inr rfl), ob_some]
    · refine lX.trans ?_
      show fX7_decimal_L20 fu (fu - (t - f)) 319 (nI t) (nI (dgV H f (t - f))) (nI (f + (t - f))) M = _
      rw [show fu - (t - f) = (fu - (t - f) - 1) + 1 by omega, fX7_decimal_L20, if_pos (nI_le (by omega) (by omega))]
end Words
