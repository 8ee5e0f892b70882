/-! ===== part 98h: the request line in the reference ===== -/
def blB (H : Nat → Nat) : Nat → Bool := fun i => decide (H i = 32)
theorem RL_cnt {H : Nat → Nat} {to a b : Nat} (h : RLok H to a b) : cnt (blB H) to = 2 := by
  have ht := RL_tail h
  obtain ⟨r1, r2, r3, r4, r5, r6, r7, r8, r9, r10⟩ := h
  have s1 : ∀ i, cnt (blB H) (i + 1) = cnt (blB H) i + (if blB H i then 1 else 0) := fun i => rfl
  have f : ∀ i, H i ≠ 32 → blB H i = false := fun i e => decide_eq_false e
  have e1 : cnt (blB H) to = cnt (blB H) (b + 1) := cnt_ext to (by omega) (fun i g1 g2 => f i (ht i (by omega) g2))
  have e2 : cnt (blB H) b = cnt (blB H) (a + 1) := cnt_ext b (by omega) (fun i g1 g2 => f i (by have := r8 i (by omega) g2; omega))
  have e3 : cnt (blB H) a = cnt (blB H) 0 := cnt_ext a (by omega) (fun i g1 g2 => f i (by have := r5 i g2; omega))
  have e4 : blB H a = true := decide_eq_true r6
  have e5 : blB H b = true := decide_eq_true r9
  rw [e1, s1, e5, if_pos rfl, e2, s1, e4, if_pos rfl, e3]
  rfl
theorem RL_only {H : Nat → Nat} {to a b : Nat} (h : RLok H to a b) : ∀ i, i < to → H i = 32 → i = a ∨ i = b := fun i hi e => by
  have ht := RL_tail h
  obtain ⟨r1, r2, r3, r4, r5, r6, r7, r8, r9, r10⟩ := h
  by_cases q1 : i < a
  · have := r5 i q1; omega
  · by_cases q2 : a < i ∧ i < b
    · have := r8 i q2.1 q2.2; omega
    · by_cases q3 : b < i
      · exact absurd e (ht i q3 hi)
      · omega
section Line2
variable {A M : Mm} {H : Nat → Nat} {n to : Nat}
def rlI (H : Nat → Nat) (i : Nat) (s3 s4 : Int32) (c : Nat) : Prop := c = cnt (blB H) i ∧ (1 ≤ c → ∃ a, a < i ∧ s3 = nI a ∧ H a = 32) ∧ (2 ≤ c → ∃ a b, a < b ∧ b < i ∧ s3 = nI a ∧ s4 = nI b ∧ H a = 32 ∧ H b = 32)
theorem m_rl_loop (fu : Nat) (hR : RW A) (hB : By A) (h : HD H n A M) (ht : to < n) : ∀ (k i m c : Nat) (s3 s4 : Int32), i + k = to → k ≤ m → rlI H i s3 s4 c →
    ∃ s3' s4' m', fX16_requestLine_L11 fu (m + 1) 323 (nI 0) (nI to) s3 s4 (nI c) (nI i) A = fX16_requestLine_L11 fu (m' + 1) 323 (nI 0) (nI to) s3' s4' (nI (cnt (blB H) to)) (nI to) A ∧ rlI H to s3' s4' (cnt (blB H) to) := by
  have hn := h.1
  have o := rw_ok323 hR
  intro k
  induction k with
  | zero =>
    intro i m c s3 s4 h1 h2 h3
    have e : i = to := by omega
    subst e
    have hc := h3.1
    rw [hc] at h3
    exact ⟨s3, s4, m, by rw [hc], h3⟩
  | succ k ih =>
    intro i m c s3 s4 h1 h2 h3
    obtain ⟨v, v1, v2⟩ := m_hd hR hB h (i := i) (by omega)
    obtain ⟨i1, i2, i3⟩ := h3
    have cle := cnt_le (blB H) i
    have s1 : cnt (blB H) (i + 1) = cnt (blB H) i + (if blB H i then 1 else 0) := rfl
    have e32 := v2 32 (by decide)
    have em : m = (m - 1) + 1 := by omega
    by_cases q : H i = 32
    · have hb : blB H i = true := decide_eq_true q
      rw [hb, if_pos rfl] at s1
      -- the new state
      obtain ⟨t3, t4, hstep, hinv⟩ : ∃ t3 t4, fX16_requestLine_L11 fu (m + 1) 323 (nI 0) (nI to) s3 s4 (nI c) (nI i) A = fX16_requestLine_L11 fu m 323 (nI 0) (nI to) t3 t4 (nI (c + 1)) (nI (i + 1)) A ∧ rlI H (i + 1) t3 t4 (c + 1) := by
        rw [fX16_requestLine_L11, if_neg (nI_ge (by omega) (by omega)), gR_ok o, ob_some, rw_g1065_323 hR, v1, ob_some, if_pos (show v = (32 : Int32) from e32.mpr q), nI_1]
        unfold fX16_requestLine_L41 fX16_requestLine_L51
        rw [nI_1]
        by_cases c0 : c = 0
        · subst c0
          rw [if_pos (show nI (0 + 1) = (1 : Int32) from rfl), if_neg (show ¬ nI (0 + 1) = (2 : Int32) by decide)]
          exact ⟨nI i, s4, rfl, by omega, fun _ => ⟨i, by omega, rfl, q⟩, fun e => by omega⟩
        · rw [if_neg (show ¬ nI (c + 1) = (1 : Int32) from fun e => by have := (nI_eq (b := 1) (by omega) (by decide)).mp e; omega)]
          obtain ⟨a, a1, a2, a3⟩ := i2 (by omega)
          by_cases c1 : c = 1
          · subst c1
            rw [if_pos (show nI (1 + 1) = (2 : Int32) from rfl)]
            exact ⟨s3, nI i, rfl, by omega, fun _ => ⟨a, by omega, a2, a3⟩, fun _ => ⟨a, i, a1, by omega, a2, rfl, a3, q⟩⟩
          · rw [if_neg (show ¬ nI (c + 1) = (2 : Int32) from fun e => by have := (nI_eq (b := 2) (by omega) (by decide)).mp e; omega)]
            obtain ⟨x, y, y1, y2, y3, y4, y5, y6⟩ := i3 (by omega)
            exact ⟨s3, s4, rfl, by omega, fun _ => ⟨a, by omega, a2, a3⟩, fun _ => ⟨x, y, y1, by omega, y3, y4, y5, y6⟩⟩
      obtain ⟨s3', s4', m', r1, r2⟩ := ih (i + 1) (m - 1) (c + 1) t3 t4 (by omega) (by omega) hinv
      rw [← em] at r1
      exact ⟨s3', s4', m', hstep.trans r1, r2⟩
    · have hb : blB H i = false := decide_eq_false q
      rw [hb, if_neg (by decide)] at s1
      have hstep : fX16_requestLine_L11 fu (m + 1) 323 (nI 0) (nI to) s3 s4 (nI c) (nI i) A = fX16_requestLine_L11 fu m 323 (nI 0) (nI to) s3 s4 (nI c) (nI (i + 1)) A := by
        rw [fX16_requestLine_L11, if_neg (nI_ge (by omega) (by omega)), gR_ok o, ob_some, rw_g1065_323 hR, v1, ob_some, if_neg (show ¬ v = (32 : Int32) from fun e => q (e32.mp e))]
        unfold fX16_requestLine_L51
        rw [nI_1]
      have hinv : rlI H (i + 1) s3 s4 c := ⟨by omega, fun e => by
        obtain ⟨a, a1, a2, a3⟩ := i2 e
        exact ⟨a, by omega, a2, a3⟩, fun e => by
        obtain ⟨x, y, y1, y2, y3, y4, y5, y6⟩ := i3 e
        exact ⟨x, y, y1, by omega, y3, y4, y5, y6⟩⟩
      obtain ⟨s3', s4', m', r1, r2⟩ := ih (i + 1) (m - 1) c s3 s4 (by omega) (by omega) hinv
      rw [← em] at r1
      exact ⟨s3', s4', m', hstep.trans r1, r2⟩
/-- the reference's notes of a request line -/
def rlA (A : Mm) (H : Nat → Nat) (to a b : Nat) : Mm := sF (sF (sF (sF (sF A 1069 323 (nI (oldN H to))) 1068 323 (if meN H a = 1 then 1 else 0)) 1084 323 (if meN H a = 2 then 1 else 0)) 1080 323 (nI (a + 1))) 1081 323 (nI b)
theorem m_reqLine (fu : Nat) (hfu : 5000 ≤ fu) (hR : RW A) (hB : By A) (h : HD H n A M) (ht : to < n) :
    (∃ a b, RLok H to a b ∧ fX16_requestLine fu 323 (nI 0) (nI to) A = some (1, rlA A H to a b)) ∨ ((∀ a b, ¬ RLok H to a b) ∧ fX16_requestLine fu 323 (nI 0) (nI to) A = some (0, A)) := by
  have hn := h.1
  have o := rw_ok323 hR
  have hb : ∀ i, H i < 256 := h.2.1
  obtain ⟨s3, s4, m', r1, r2, r3, r4⟩ := m_rl_loop fu hR hB h ht to 0 (fu - 1) 0 (-1) (-1) (by omega) (by omega) ⟨rfl, fun e => by omega, fun e => by omega⟩
  rw [show fu - 1 + 1 = fu by omega] at r1
  have e0 : fX16_requestLine fu 323 (nI 0) (nI to) A = fX16_requestLine_L11 fu (m' + 1) 323 (nI 0) (nI to) s3 s4 (nI (cnt (blB H) to)) (nI to) A := r1
  have hcl := cnt_le (blB H) to
  rw [e0, fX16_requestLine_L11, if_pos (nI_le (Nat.le_refl _) (by omega))]
  by_cases c2 : cnt (blB H) to = 2
  rotate_left
  · rw [if_neg (show ¬ nI (cnt (blB H) to) = (2 : Int32) from fun e => c2 ((nI_eq (b := 2) (by omega) (by decide)).mp e)), rN0]
    exact Or.inr ⟨fun a b e => c2 (RL_cnt e), rfl⟩
  rw [if_pos (show nI (cnt (blB H) to) = (2 : Int32) by rw [c2]; rfl)]
  obtain ⟨a, b, y1, y2, y3, y4, y5, y6⟩ := r4 (by omega)
  have no : ¬ RLok H to a b → (∀ a b, ¬ RLok H to a b) := fun e a' b' hr => by
    have o1 := RL_only hr a (by omega) y5
    have o2 := RL_only hr b (by omega) y6
    have := hr.2.2.1
    have e1 : a = a' := by omega
    have e2 : b = b' := by omega
    subst e1 e2
    exact e hr
  have ea : nI a - nI 0 = nI a := by rw [nI_sub (by omega)]; rfl
  rw [y3, y4, ea]
  by_cases p1 : a < 1
  · rw [if_pos (show nI a < (1 : Int32) from nI_lt (b := 1) p1 (by decide)), rN0]
    exact Or.inr ⟨no (fun e => by have := e.1; omega), rfl⟩
  rw [if_neg (show ¬ nI a < (1 : Int32) from nI_nlt (b := 1) (by omega) (by omega))]
  by_cases p2 : 16 < a
  · rw [if_pos (show (16 : Int32) < nI a from nI_lt (a := 16) p2 (by omega)), rN0]
    exact Or.inr ⟨no (fun e => by have := e.2.1; omega), rfl⟩
  rw [if_neg (show ¬ (16 : Int32) < nI a from nI_nlt (a := 16) (by omega) (by omega)), nI_1]
  by_cases p3 : b = a + 1
  · rw [if_pos (by rw [p3]), rN0]
    exact Or.inr ⟨no (fun e => by have := e.2.2.1; omega), rfl⟩
  obtain ⟨v, v1, v2⟩ := m_hd hR hB h (i := a + 1) (by omega)
  rw [if_neg (fun e => p3 ((nI_eq (by omega) (by omega)).mp e)), gR_ok o, ob_some, rw_g1065_323 hR, v1, ob_some]
  by_cases p4 : H (a + 1) = 47
  rotate_left
  · rw [if_neg (show ¬ v = (47 : Int32) from fun e => p4 ((v2 47 (by decide)).mp e)), rN0]
    exact Or.inr ⟨no (fun e => p4 e.2.2.2.2.2.2.1), rfl⟩
  rw [if_pos (show v = (47 : Int32) from (v2 47 (by decide)).mpr p4)]
  have e9 : (nI to - nI b = (9 : Int32)) ↔ to = b + 9 := sub_eq (l := 9) (by omega) (by omega) (by decide)
  by_cases p5 : to = b + 9
  rotate_left
  · rw [if_neg (fun e => p5 (e9.mp e)), rN0]
    exact Or.inr ⟨no (fun e => by have := e.2.2.2.1; omega), rfl⟩
  rw [if_pos (e9.mpr p5)]
  -- the method's letters
  have l1 := lpAll (fun m i => fX16_requestLine_L113 fu m 323 (nI 0) (nI to) (nI a) (nI b) (nI i) A) a (fun i => 65 ≤ H i ∧ H i ≤ 90) (fX16_requestLine_L154 fu fu 323 (nI 0) (nI to) (nI a) (nI b) (nI (a + 1)) A) (some ((0 : Int32), A)) (fun m x g2 hp => by
    have hx := hb x
    rw [fX16_requestLine_L113, if_neg (nI_ge g2 (by omega)), rc_ok o, ob_some, m_headAt fu hR h (by omega), b2_some, if_neg (show ¬ nI (H x) < (65 : Int32) from nI_nlt (b := 65) hp.1 (by omega)), rc_ok o, ob_some, m_headAt fu hR h (by omega), b2_some, if_pos (show nI (H x) ≤ (90 : Int32) from nI_le (b := 90) hp.2 (by decide)), nI_1]) (fun m x g2 hp => by
    have hx := hb x
    rw [fX16_requestLine_L113, if_neg (nI_ge g2 (by omega)), rc_ok o, ob_some, m_headAt fu hR h (by omega), b2_some]
    by_cases q : H x < 65
    · rw [if_pos (show nI (H x) < (65 : Int32) from nI_lt (b := 65) q (by decide)), rN0]
    · rw [if_neg (show ¬ nI (H x) < (65 : Int32) from nI_nlt (b := 65) (by omega) (by omega)), rc_ok o, ob_some, m_headAt fu hR h (by omega), b2_some, if_neg (show ¬ nI (H x) ≤ (90 : Int32) from nI_ge (a := 90) (by omega) (by omega)), rN0]) (fun m => by
    rw [fX16_requestLine_L113, if_pos (nI_le (Nat.le_refl _) (by omega)), nI_1]) (fu := fu) (by omega)
  rcases l1 with ⟨w1, w2⟩ | ⟨w1, w2⟩
  rotate_left
  · rw [w2]
    exact Or.inr ⟨no (fun e => w1 e.2.2.2.2.1), rfl⟩
  rw [w2]
  -- the target's codes, the version
  have l2 := lpAll (fun m i => fX16_requestLine_L154 fu m 323 (nI 0) (nI to) (nI a) (nI b) (nI (a + 1 + i)) A) (b - (a + 1)) (fun i => 33 ≤ H (a + 1 + i) ∧ H (a + 1 + i) ≤ 126) (if eqT id H (b + 1) to 43 ∨ eqT id H (b + 1) to 44 then fX16_requestLine_L223 fu 323 (nI 0) (nI to) (nI a) (nI b) A else some ((0 : Int32), A)) (some ((0 : Int32), A)) (fun m x g2 hp => by
    have hx := hb (a + 1 + x)
    rw [fX16_requestLine_L154, if_neg (nI_ge (by omega) (by omega)), rc_ok o, ob_some, m_headAt fu hR h (by omega), b2_some, if_neg (show ¬ nI (H (a + 1 + x)) < (33 : Int32) from nI_nlt (b := 33) hp.1 (by omega)), rc_ok o, ob_some, m_headAt fu hR h (by omega), b2_some, if_pos (show nI (H (a + 1 + x)) ≤ (126 : Int32) from nI_le (b := 126) hp.2 (by decide)), nI_1, Nat.add_assoc (a + 1)]) (fun m x g2 hp => by
    have hx := hb (a + 1 + x)
    rw [fX16_requestLine_L154, if_neg (nI_ge (by omega) (by omega)), rc_ok o, ob_some, m_headAt fu hR h (by omega), b2_some]
    by_cases q : H (a + 1 + x) < 33
    · rw [if_pos (show nI (H (a + 1 + x)) < (33 : Int32) from nI_lt (b := 33) q (by decide)), rN0]
    · rw [if_neg (show ¬ nI (H (a + 1 + x)) < (33 : Int32) from nI_nlt (b := 33) (by omega) (by omega)), rc_ok o, ob_some, m_headAt fu hR h (by omega), b2_some, if_neg (show ¬ nI (H (a + 1 + x)) ≤ (126 : Int32) from nI_ge (a := 126) (by omega) (by omega)), rN0]) (fun m => by
    rw [fX16_requestLine_L154, if_pos (nI_le (by omega) (by omega)), rc_ok o, ob_some, nI_1, m_says fu (by omega) hR h (by decide) (by omega) (by omega), b2_some, if10]
    by_cases z1 : eqT id H (b + 1) to 43
    · rw [if_pos z1, if_pos (Or.inl z1)]
    · rw [if_neg z1, rc_ok o, ob_some, m_says fu (by omega) hR h (by decide) (by omega) (by omega), b2_some, if10]
      by_cases z2 : eqT id H (b + 1) to 44
      · rw [if_pos z2, if_pos (Or.inr z2)]
      · rw [if_neg z2, if_neg (fun e => e.elim z1 z2), rN0]) (fu := fu) (by omega)
  rcases l2 with ⟨u1, u2⟩ | ⟨u1, u2⟩
  rotate_left
  · rw [show fX16_requestLine_L154 fu fu 323 (nI 0) (nI to) (nI a) (nI b) (nI (a + 1)) A = _ from u2]
    exact Or.inr ⟨no (fun e => u1 (fun i hi => e.2.2.2.2.2.2.2.1 (a + 1 + i) (by omega) (by omega))), rfl⟩
  rw [show fX16_requestLine_L154 fu fu 323 (nI 0) (nI to) (nI a) (nI b) (nI (a + 1)) A = _ from u2]
  by_cases z : eqT id H (b + 1) to 43 ∨ eqT id H (b + 1) to 44
  rotate_left
  · rw [if_neg z]
    exact Or.inr ⟨no (fun e => z e.2.2.2.2.2.2.2.2.2), rfl⟩
  rw [if_pos z]
  have hr : RLok H to a b := ⟨by omega, by omega, by omega, by omega, w1, y5, p4, fun i g1 g2 => by
    have := u1 (i - (a + 1)) (by omega)
    rw [show a + 1 + (i - (a + 1)) = i by omega] at this
    exact this, y6, z⟩
  refine Or.inl ⟨a, b, hr, ?_⟩
  -- what is noted
  obtain ⟨x, x1, x2⟩ := m_hd hR hB h (i := to - 1) (by omega)
  unfold fX16_requestLine_L223 fX16_requestLine_L242 fX16_requestLine_L282 fX16_requestLine_L283
  rw [gR_ok o, ob_some, rw_g1065_323 hR, show nI to - (1 : Int32) = nI (to - 1) from nI_sub (y := 1) (by omega), x1, ob_some]
  have old : ∀ f : Int32 → Option (Int32 × Mm), (if x = (48 : Int32) then f 1 else f 0) = f (nI (oldN H to)) := fun f => by
    unfold oldN
    by_cases q : H (to - 1) = 48
    · rw [if_pos (show x = (48 : Int32) from (x2 48 (by decide)).mpr q), if_pos q]; rfl
    · rw [if_neg (show ¬ x = (48 : Int32) from fun e => q ((x2 48 (by decide)).mp e)), if_neg q]; rfl
  refine (old (fun s => (pZ A 16 1069 (some 323) s).bind fun M1 => (rc M1 16 (some 323)).bind fun q2 => b2 (fX16_says fu q2 (nI 0) (nI a) (some 3) M1) fun v4 M3 => (pZ M3 16 1068 (some 323) v4).bind fun M5 => (gI M5 16 1068 (some 323)).bind fun v6 => if v6 = 0 then (rc M5 16 (some 323)).bind fun q7 => b2 (fX16_says fu q7 (nI 0) (nI a) (some 2) M5) fun v9 M8 => if v9 = 0 then (pZ M8 16 1084 (some 323) 1).bind fun M1 => (pF M1 16 1080 (some 323) (nI a + 1)).bind fun M2 => (pF M2 16 1081 (some 323) (nI b)).bind fun M3 => rN .boolean 1 M3 else (pZ M8 16 1084 (some 323) 0).bind fun M1 => (pF M1 16 1080 (some 323) (nI a + 1)).bind fun M2 => (pF M2 16 1081 (some 323) (nI b)).bind fun M3 => rN .boolean 1 M3 else (pZ M5 16 1084 (some 323) 0).bind fun M1 => (pF M1 16 1080 (some 323) (nI a + 1)).bind fun M2 => (pF M2 16 1081 (some 323) (nI b)).bind fun M3 => rN .boolean 1 M3)).trans ?_
  have hz : nI (oldN H to) = 0 ∨ nI (oldN H to) = 1 := by
    unfold oldN
    split
    · exact Or.inr rfl
    · exact Or.inl rfl
  rw [pZ_ok o hz, ob_some, rc_ok (by rw [ok_sF]; exact o), ob_some]
  generalize hA1 : sF A 1069 323 (nI (oldN H to)) = A1
  have hR1 : RW A1 := by subst hA1; exact hR
  have h1 : HD H n A1 M := by subst hA1; exact h
  have o1 := rw_ok323 hR1
  rw [m_says fu (by omega) hR1 h1 (by decide) (by omega) (by omega), b2_some, pZ_ok o1 (by split; exact Or.inr rfl; exact Or.inl rfl), ob_some, gI_ok (by rw [ok_sF]; exact o1), ob_some, show mF (sF A1 1068 323 (if eqT id H 0 a 3 then 1 else 0)) 1068 323 = (if eqT id H 0 a 3 then 1 else 0) from (mF_sF _ _ _ _ _ _).trans (if_pos ⟨rfl, rfl⟩), if10]
  generalize hA2 : sF A1 1068 323 (if eqT id H 0 a 3 then 1 else 0) = A2
  have hR2 : RW A2 := by subst hA2; exact hR1
  have h2 : HD H n A2 M := by subst hA2; exact h1
  have o2 := rw_ok323 hR2
  rw [rc_ok o2, ob_some, m_says fu (by omega) hR2 h2 (by decide) (by omega) (by omega), b2_some, if10, pZ_ok o2 (Or.inl rfl), pZ_ok o2 (Or.inr rfl), ob_some, ob_some, nI_1]
  have k1 : ∀ x, okA (sF A2 1084 323 x) 16 323 := fun _ => o2
  have k2 : ∀ x y, okA (sF (sF A2 1084 323 x) 1080 323 y) 16 323 := fun _ _ => o2
  simp only [pF_ok (k1 _), pF_ok (k2 _ _), ob_some, rN1]
  subst hA1
  unfold rlA meN
  by_cases t3 : eqT id H 0 a 3
  · rw [if_pos t3, if_pos t3] 
    subst hA2
    rw [if_pos t3, if_pos rfl, if_neg (by decide)]
  · rw [if_neg t3, if_neg t3]
    subst hA2
    rw [if_neg t3]
    by_cases t2 : eqT id H 0 a 2
    · rw [if_pos t2, if_pos t2, if_neg (by decide), if_neg (by decide)]
    · rw [if_neg t2, if_neg t2, if_neg (by decide), if_pos rfl]
end Line2
