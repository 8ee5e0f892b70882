/-! ===== part 98k: a field line, in both ===== -/
/-- a code that a field's value may hold -/
def okC (c : Nat) : Prop := c = 9 ∨ (32 ≤ c ∧ c ≠ 127)
abbrev blk (c : Nat) : Prop := c = 32 ∨ c = 9
theorem okC_blk {c : Nat} (h : blk c) : okC c := by
  unfold okC
  rcases h with h | h <;> omega
theorem nI_less {x : Nat} (h : 1 ≤ x) : nI x + (-1 : Int32) = nI (x - 1) := by
  rw [show x = (x - 1) + 1 by omega, ← nI_1 (x - 1), show x - 1 + 1 - 1 = x - 1 by omega, Int32.add_assoc]
  exact Int32.add_zero _
section Field3
variable {A M : Mm} {H : Nat → Nat} {n : Nat}
theorem sp_field (fu : Nat) (hfu : 5000 ≤ fu) (hR : RW A) (hB : By A) (hW : XW M) (h : HD H n A M) {f t p : Nat} (h1 : f < t) (h2 : t < n) (hp : PR A M p) (htp : t ≤ p + 1) (hpn : p < 5000) :
    (∃ A' M', fX16_field fu 323 (nI f) (nI t) A = some (1, A') ∧ fX7_readField fu 319 (nI f) (nI t) M = some (1, M') ∧ FF SfA 323 A A' ∧ FF SfM 319 M M' ∧ PR A' M' (p + 1)) ∨ (fX16_field fu 323 (nI f) (nI t) A = some (0, A) ∧ fX7_readField fu 319 (nI f) (nI t) M = some (0, M)) := by
  have hn := h.1
  have o := rw_ok323 hR
  have o7 := xw_ok319 hW
  have g5 := xw_g450_319 hW
  have hb : ∀ i, H i < 256 := h.2.1
  obtain ⟨c, hc⟩ := Stop.ex (fun i => nameP (H i)) (i := f) (n := t) (by omega)
  have lA : fX16_field fu 323 (nI f) (nI t) A = fX16_field_L24 fu 323 (nI f) (nI t) (nI c) A :=
    lpStop (fun m i => fX16_field_L2 fu m 323 (nI f) (nI t) (nI i) A) hc (fun i => fX16_field_L24 fu 323 (nI f) (nI t) (nI i) A) (fun m x g1 g2 hq => by
      rw [fX16_field_L2, if_neg (nI_ge g2 (by omega)), rc_ok o, ob_some, m_headAt fu hR h (by omega), b2_some, (m_nameCode fu (hb x) A).1 hq, b2_some, if_neg (by decide), nI_1]) (fun m x g1 g2 hq => by
      rw [fX16_field_L2, if_neg (nI_ge g2 (by omega)), rc_ok o, ob_some, m_headAt fu hR h (by omega), b2_some, (m_nameCode fu (hb x) A).2 hq, b2_some, if_pos rfl]) (fun m => by
      rw [fX16_field_L2, if_pos (nI_le (Nat.le_refl _) (by omega))]) (fu := fu) (by omega)
  have lX : fX7_readField fu 319 (nI f) (nI t) M = fX7_readField_L27 fu 319 (nI f) (nI t) (nI c) M :=
    lpStop (fun m i => fX7_readField_L2 fu m 319 (nI f) (nI t) (nI i) M) hc (fun i => fX7_readField_L27 fu 319 (nI f) (nI t) (nI i) M) (fun m x g1 g2 hq => by
      rw [fX7_readField_L2, if_neg (nI_ge g2 (by omega)), gR_ok o7, ob_some, g5, x_oneH fu hW h (by omega), b2_some, (x_nameCode fu (by omega) (hb x) M).1 hq, b2_some, if_neg (by decide), nI_1]) (fun m x g1 g2 hq => by
      rw [fX7_readField_L2, if_neg (nI_ge g2 (by omega)), gR_ok o7, ob_some, g5, x_oneH fu hW h (by omega), b2_some, (x_nameCode fu (by omega) (hb x) M).2 hq, b2_some, if_pos rfl]) (fun m => by
      rw [fX7_readField_L2, if_pos (nI_le (Nat.le_refl _) (by omega))]) (fu := fu) (by omega)
  obtain ⟨c1, c2, c3, c4⟩ := hc
  rw [lA, lX]
  unfold fX16_field_L24 fX7_readField_L27
  by_cases p1 : c = f
  · right
    rw [if_pos (by rw [p1]), if_pos (by rw [p1]), rN0, rN0]
    exact ⟨rfl, rfl⟩
  have p1' : ¬ nI c = nI f := fun e => p1 ((nI_eq (by omega) (by omega)).mp e)
  rw [if_neg p1', if_neg p1']
  by_cases p2 : c = t
  · right
    rw [if_pos (by rw [p2]), if_pos (nI_le (by omega) (by omega)), rN0, rN0]
    exact ⟨rfl, rfl⟩
  obtain ⟨v, v1, v2⟩ := m_hd hR hB h (i := c) (by omega)
  rw [if_neg (fun e => p2 ((nI_eq (by omega) (by omega)).mp e)), if_neg (nI_ge (by omega) (by omega)), gR_ok o, ob_some, rw_g1065_323 hR, v1, ob_some, gR_ok o7, ob_some, g5, x_oneH fu hW h (by omega), b2_some]
  by_cases p3 : H c = 58
  rotate_left
  · right
    rw [if_neg (show ¬ v = (58 : Int32) from fun e => p3 ((v2 58 (by decide)).mp e)), if_neg (show ¬ nI (H c) = (58 : Int32) from fun e => p3 ((nI_eq (b := 58) (by have := hb c; omega) (by decide)).mp e)), rN0, rN0]
    exact ⟨rfl, rfl⟩
  rw [if_pos (show v = (58 : Int32) from (v2 58 (by decide)).mpr p3), if_pos (show nI (H c) = (58 : Int32) by rw [p3]; rfl), nI_1]
  -- where the value begins and ends
  obtain ⟨a, ha⟩ := Stop.ex (fun i => blk (H i)) (i := c + 1) (n := t) (by omega)
  have haa := ha
  obtain ⟨a1, a2, a3, a4⟩ := haa
  obtain ⟨j, hj⟩ := Stop.ex (fun i => blk (H (t - i - 1))) (i := 0) (n := t - a) (by omega)
  have hjj := hj
  obtain ⟨-, j2, j3, j4⟩ := hjj
  obtain ⟨b, hbj⟩ : ∃ b, b = t - j := ⟨_, rfl⟩
  -- the reference
  have rA := lpAll (fun m i => fX16_field_L59 fu m 323 (nI f) (nI c) (nI (c + 1)) (nI t) (nI (c + 1 + i)) A) (t - (c + 1)) (fun i => okC (H (c + 1 + i))) (fX16_field_L103 fu fu 323 (nI f) (nI c) (nI (c + 1)) (nI t) A) (some ((0 : Int32), A)) (fun m i hi hq => by
    have hx := hb (c + 1 + i)
    rw [fX16_field_L59, if_neg (nI_ge (by omega) (by omega)), rc_ok o, ob_some, m_headAt fu hR h (by omega), b2_some]
    unfold fX16_field_L97
    rw [nI_1, Nat.add_assoc (c + 1)]
    by_cases q : H (c + 1 + i) = 9
    · rw [if_pos (show nI (H (c + 1 + i)) = (9 : Int32) by rw [q]; rfl)]
    · have hq' : 32 ≤ H (c + 1 + i) ∧ H (c + 1 + i) ≠ 127 := hq.elim (fun e => absurd e q) id
      rw [if_neg (show ¬ nI (H (c + 1 + i)) = (9 : Int32) from fun e => q ((nI_eq (b := 9) (by omega) (by decide)).mp e)), if_neg (show ¬ nI (H (c + 1 + i)) < (32 : Int32) from nI_nlt (b := 32) hq'.1 (by omega)), if_neg (show ¬ nI (H (c + 1 + i)) = (127 : Int32) from fun e => hq'.2 ((nI_eq (b := 127) (by omega) (by decide)).mp e))]) (fun m i hi hq => by
    have hx := hb (c + 1 + i)
    rw [fX16_field_L59, if_neg (nI_ge (by omega) (by omega)), rc_ok o, ob_some, m_headAt fu hR h (by omega), b2_some]
    rw [if_neg (show ¬ nI (H (c + 1 + i)) = (9 : Int32) from fun e => hq (Or.inl ((nI_eq (b := 9) (by omega) (by decide)).mp e)))]
    by_cases q : H (c + 1 + i) < 32
    · rw [if_pos (show nI (H (c + 1 + i)) < (32 : Int32) from nI_lt (b := 32) q (by decide)), rN0]
    · have q2 : H (c + 1 + i) = 127 := Classical.not_not.mp (fun e => hq (Or.inr ⟨by omega, e⟩))
      rw [if_neg (show ¬ nI (H (c + 1 + i)) < (32 : Int32) from nI_nlt (b := 32) (by omega) (by omega)), if_pos (show nI (H (c + 1 + i)) = (127 : Int32) by rw [q2]; rfl), rN0]) (fun m => by
    rw [fX16_field_L59, if_pos (nI_le (by omega) (by omega))]) (fu := fu) (by omega)
  have rA2 : fX16_field_L103 fu fu 323 (nI f) (nI c) (nI (c + 1)) (nI t) A = fX16_field_L128 fu fu 323 (nI f) (nI c) (nI a) (nI t) A :=
    lpStop (fun m i => fX16_field_L103 fu m 323 (nI f) (nI c) (nI i) (nI t) A) ha (fun i => fX16_field_L128 fu fu 323 (nI f) (nI c) (nI i) (nI t) A) (fun m x g1 g2 hq => by
      rw [fX16_field_L103, if_neg (nI_ge g2 (by omega)), rc_ok o, ob_some, m_headAt fu hR h (by omega), b2_some, m_blank fu (hb x), b2_some, if10, if_pos hq, nI_1]) (fun m x g1 g2 hq => by
      rw [fX16_field_L103, if_neg (nI_ge g2 (by omega)), rc_ok o, ob_some, m_headAt fu hR h (by omega), b2_some, m_blank fu (hb x), b2_some, if10, if_neg hq]) (fun m => by
      rw [fX16_field_L103, if_pos (nI_le (Nat.le_refl _) (by omega))]) (fu := fu) (by omega)
  have rA3 : fX16_field_L128 fu fu 323 (nI f) (nI c) (nI a) (nI t) A = fX16_field_L155 fu 323 (nI f) (nI c) (nI a) (nI b) A := by
    rw [hbj]
    exact lpStop (fun m i => fX16_field_L128 fu m 323 (nI f) (nI c) (nI a) (nI (t - i)) A) hj (fun i => fX16_field_L155 fu 323 (nI f) (nI c) (nI a) (nI (t - i)) A) (fun m x g1 g2 hq => by
      rw [fX16_field_L128, if_neg (nI_ge (by omega) (by omega)), rc_ok o, ob_some, show nI (t - x) - (1 : Int32) = nI (t - x - 1) from nI_sub (y := 1) (by omega), m_headAt fu hR h (by omega), b2_some, m_blank fu (hb _), b2_some, if10, if_pos hq, nI_less (by omega), show t - x - 1 = t - (x + 1) by omega]) (fun m x g1 g2 hq => by
      rw [fX16_field_L128, if_neg (nI_ge (by omega) (by omega)), rc_ok o, ob_some, show nI (t - x) - (1 : Int32) = nI (t - x - 1) from nI_sub (y := 1) (by omega), m_headAt fu hR h (by omega), b2_some, m_blank fu (hb _), b2_some, if10, if_neg hq]) (fun m => by
      rw [fX16_field_L128, if_pos (nI_le (by omega) (by omega))]) (fu := fu) (by omega)
  -- the class
  have rX1 : fX7_readField_L57 fu fu 319 (nI f) (nI t) (nI c) (nI (c + 1)) M = fX7_readField_L84 fu 319 (nI f) (nI t) (nI c) (nI a) M :=
    lpStop (fun m i => fX7_readField_L57 fu m 319 (nI f) (nI t) (nI c) (nI i) M) ha (fun i => fX7_readField_L84 fu 319 (nI f) (nI t) (nI c) (nI i) M) (fun m x g1 g2 hq => by
      rw [fX7_readField_L57, if_neg (nI_ge g2 (by omega)), gR_ok o7, ob_some, g5, x_oneH fu hW h (by omega), b2_some, x_blank fu (hb x), b2_some, if10, if_pos hq, nI_1]) (fun m x g1 g2 hq => by
      rw [fX7_readField_L57, if_neg (nI_ge g2 (by omega)), gR_ok o7, ob_some, g5, x_oneH fu hW h (by omega), b2_some, x_blank fu (hb x), b2_some, if10, if_neg hq]) (fun m => by
      rw [fX7_readField_L57, if_pos (nI_le (Nat.le_refl _) (by omega))]) (fu := fu) (by omega)
  have rX2 : fX7_readField_L84 fu 319 (nI f) (nI t) (nI c) (nI a) M = fX7_readField_L121 fu fu 319 (nI f) (nI c) (nI a) (nI b) (nI a) M := by
    rw [hbj]
    unfold fX7_readField_L84
    exact lpStop (fun m i => fX7_readField_L87 fu m 319 (nI f) (nI c) (nI a) (nI (t - i)) M) hj (fun i => fX7_readField_L117 fu 319 (nI f) (nI c) (nI a) (nI (t - i)) M) (fun m x g1 g2 hq => by
      rw [fX7_readField_L87, if_neg (nI_ge (by omega) (by omega)), gR_ok o7, ob_some, g5, show nI (t - x) - (1 : Int32) = nI (t - x - 1) from nI_sub (y := 1) (by omega), x_oneH fu hW h (by omega), b2_some, x_blank fu (hb _), b2_some, if10, if_pos hq, nI_less (by omega), show t - x - 1 = t - (x + 1) by omega]) (fun m x g1 g2 hq => by
      rw [fX7_readField_L87, if_neg (nI_ge (by omega) (by omega)), gR_ok o7, ob_some, g5, show nI (t - x) - (1 : Int32) = nI (t - x - 1) from nI_sub (y := 1) (by omega), x_oneH fu hW h (by omega), b2_some, x_blank fu (hb _), b2_some, if10, if_neg hq]) (fun m => by
      rw [fX7_readField_L87, if_pos (nI_le (by omega) (by omega))]) (fu := fu) (by omega)
  have rX := lpAll (fun m i => fX7_readField_L121 fu m 319 (nI f) (nI c) (nI a) (nI b) (nI (a + i)) M) (b - a) (fun i => okC (H (a + i))) ((fX7_note fu 319 (nI f) (nI c) (nI a) (nI b) M).bind fun M2 => rN .boolean (1 : Int32) M2) (some ((0 : Int32), M)) (fun m i hi hq => by
    have hx := hb (a + i)
    rw [fX7_readField_L121, if_neg (nI_ge (by omega) (by omega)), gR_ok o7, ob_some, g5, x_oneH fu hW h (by omega), b2_some]
    unfold fX7_readField_L153
    rw [nI_1, Nat.add_assoc a]
    by_cases q : 32 ≤ H (a + i)
    · have q2 : H (a + i) ≠ 127 := by unfold okC at hq; omega
      rw [if_pos (show (32 : Int32) ≤ nI (H (a + i)) from nI_le (a := 32) q (by omega)), if_neg (show ¬ nI (H (a + i)) = (127 : Int32) from fun e => q2 ((nI_eq (b := 127) (by omega) (by decide)).mp e))]
    · have q2 : H (a + i) = 9 := by unfold okC at hq; omega
      rw [if_neg (show ¬ (32 : Int32) ≤ nI (H (a + i)) from nI_ge (b := 32) (by omega) (by decide)), if_pos (show nI (H (a + i)) = (9 : Int32) by rw [q2]; rfl), if_neg (show ¬ nI (H (a + i)) = (127 : Int32) by rw [q2]; decide)]) (fun m i hi hq => by
    have hx := hb (a + i)
    rw [fX7_readField_L121, if_neg (nI_ge (by omega) (by omega)), gR_ok o7, ob_some, g5, x_oneH fu hW h (by omega), b2_some]
    unfold fX7_readField_L153
    by_cases q : 32 ≤ H (a + i)
    · have q2 : H (a + i) = 127 := by unfold okC at hq; omega
      rw [if_pos (show (32 : Int32) ≤ nI (H (a + i)) from nI_le (a := 32) q (by omega)), if_pos (show nI (H (a + i)) = (127 : Int32) by rw [q2]; rfl), rN0]
    · have q2 : H (a + i) ≠ 9 := by unfold okC at hq; omega
      rw [if_neg (show ¬ (32 : Int32) ≤ nI (H (a + i)) from nI_ge (b := 32) (by omega) (by decide)), if_neg (show ¬ nI (H (a + i)) = (9 : Int32) from fun e => q2 ((nI_eq (b := 9) (by omega) (by decide)).mp e)), rN0]) (fun m => by
    rw [fX7_readField_L121, if_pos (nI_le (by omega) (by omega)), rc_ok o7, ob_some]) (fu := fu) (by omega)
  have same : (∀ i, i < t - (c + 1) → okC (H (c + 1 + i))) ↔ (∀ i, i < b - a → okC (H (a + i))) := by
    constructor
    · intro hh i hi
      have := hh (a + i - (c + 1)) (by omega)
      rw [show c + 1 + (a + i - (c + 1)) = a + i by omega] at this
      exact this
    · intro hh i hi
      by_cases y1 : c + 1 + i < a
      · exact okC_blk (a3 (c + 1 + i) (by omega) y1)
      · by_cases y2 : c + 1 + i < b
        · have := hh (c + 1 + i - a) (by omega)
          rw [show a + (c + 1 + i - a) = c + 1 + i by omega] at this
          exact this
        · have : blk (H (t - (t - (c + 1 + i) - 1) - 1)) := j3 (t - (c + 1 + i) - 1) (by omega) (by omega)
          rw [show t - (t - (c + 1 + i) - 1) - 1 = c + 1 + i by omega] at this
          exact okC_blk this
  rw [rX1, rX2]
  rcases rA with ⟨y1, y2⟩ | ⟨y1, y2⟩
  · rcases rX with ⟨z1, z2⟩ | ⟨z1, z2⟩
    · left
      obtain ⟨A', M', r1, r2, r3, r4, r5⟩ := sp_note fu hfu hR hW h (f := f) (c := c) (a := a) (b := b) (p := p) (by omega) (by omega) (by omega) (by omega) hp (by omega) hpn
      refine ⟨A', M', ?_, ?_, r3, r4, r5⟩
      · refine (show fX16_field_L59 fu fu 323 (nI f) (nI c) (nI (c + 1)) (nI t) (nI (c + 1)) A = _ from y2).trans ?_
        rw [rA2, rA3]
        exact r1
      · refine (show fX7_readField_L121 fu fu 319 (nI f) (nI c) (nI a) (nI b) (nI a) M = _ from z2).trans ?_
        rw [r2, ob_some, rN1]
    · exact absurd (same.mp y1) z1
  · rcases rX with ⟨z1, z2⟩ | ⟨z1, z2⟩
    · exact absurd (same.mpr z1) y1
    · exact Or.inr ⟨y2, z2⟩
end Field3
