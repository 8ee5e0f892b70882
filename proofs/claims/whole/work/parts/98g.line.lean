/-! ===== part 98g: the request line, in both ===== -/
/-- a right request line: method up to a, target up to b -/
def RLok (H : Nat → Nat) (to a b : Nat) : Prop := 1 ≤ a ∧ a ≤ 16 ∧ a + 1 < b ∧ b + 9 = to ∧ (∀ i, i < a → 65 ≤ H i ∧ H i ≤ 90) ∧ H a = 32 ∧ H (a + 1) = 47 ∧ (∀ i, a < i → i < b → 33 ≤ H i ∧ H i ≤ 126) ∧ H b = 32 ∧ (eqT id H (b + 1) to 43 ∨ eqT id H (b + 1) to 44)
/-- the method: 0 for GET, 1 for HEAD, 2 for any other -/
def meN (H : Nat → Nat) (a : Nat) : Nat := if eqT id H 0 a 3 then 1 else if eqT id H 0 a 2 then 0 else 2
def oldN (H : Nat → Nat) (to : Nat) : Nat := if H (to - 1) = 48 then 1 else 0
theorem tx43 : txL 43 = 8 ∧ txL 44 = 8 ∧ txL 0 = 9 ∧ txL 1 = 9 ∧ txC 43 7 = 48 ∧ txC 44 7 = 49 ∧ txC 0 0 = 32 ∧ txC 1 0 = 32 ∧ (∀ i, i < 8 → txC 0 (i + 1) = txC 44 i ∧ txC 1 (i + 1) = txC 43 i ∧ txC 43 i ≠ 32 ∧ txC 44 i ≠ 32) := by decide +kernel
theorem tx23 : txL 2 = 3 ∧ txL 3 = 4 := by decide +kernel
theorem eqT0 {H : Nat → Nat} {b to : Nat} (k k' : Nat) (hk : (k = 0 ∧ k' = 44) ∨ (k = 1 ∧ k' = 43)) : eqT id H b to k ↔ (H b = 32 ∧ eqT id H (b + 1) to k') := by
  obtain ⟨t1, t2, t3, t4, t5, t6, t7, t8, t9⟩ := tx43
  have l1 : txL k = 9 := by rcases hk with ⟨e, -⟩ | ⟨e, -⟩ <;> rw [e] <;> assumption
  have l2 : txL k' = 8 := by rcases hk with ⟨-, e⟩ | ⟨-, e⟩ <;> rw [e] <;> assumption
  have c0 : txC k 0 = 32 := by rcases hk with ⟨e, -⟩ | ⟨e, -⟩ <;> rw [e] <;> assumption
  have cs : ∀ i, i < 8 → txC k (i + 1) = txC k' i := fun i hi => by
    rcases hk with ⟨e, e'⟩ | ⟨e, e'⟩
    · rw [e, e']; exact (t9 i hi).1
    · rw [e, e']; exact (t9 i hi).2.1
  unfold eqT
  rw [l1, l2]
  constructor
  · rintro ⟨h1, h2⟩
    refine ⟨?_, by omega, fun i hi => ?_⟩
    · have := h2 0 (by decide)
      rw [c0] at this
      exact this
    · have := h2 (i + 1) (by omega)
      rw [cs i hi] at this
      rw [show b + 1 + i = b + (i + 1) by omega]
      exact this
  · rintro ⟨h0, h1, h2⟩
    refine ⟨by omega, fun i hi => ?_⟩
    by_cases q : i = 0
    · subst q
      rw [c0]
      exact h0
    · have := h2 (i - 1) (by omega)
      rw [show b + 1 + (i - 1) = b + i by omega, ← cs (i - 1) (by omega), show i - 1 + 1 = i by omega] at this
      exact this
section Line
variable {A M : Mm} {H : Nat → Nat} {n to : Nat}
theorem RL_tail {a b : Nat} (h : RLok H to a b) : ∀ i, b < i → i < to → H i ≠ 32 := fun i h1 h2 => by
  obtain ⟨-, -, -, r4, -, -, -, -, -, r10⟩ := h
  obtain ⟨t1, t2, -, -, -, -, -, -, t9⟩ := tx43
  have := t9 (i - (b + 1)) (by omega)
  rcases r10 with ⟨-, y⟩ | ⟨-, y⟩
  · have := y (i - (b + 1)) (by omega)
    rw [show b + 1 + (i - (b + 1)) = i by omega] at this
    have : H i = txC 43 (i - (b + 1)) := this
    omega
  · have := y (i - (b + 1)) (by omega)
    rw [show b + 1 + (i - (b + 1)) = i by omega] at this
    have : H i = txC 44 (i - (b + 1)) := this
    omega
theorem RL_old {a b : Nat} (h : RLok H to a b) : (eqT id H (b + 1) to 44 ∧ H (to - 1) = 49) ∨ (¬ eqT id H (b + 1) to 44 ∧ H (to - 1) = 48) := by
  obtain ⟨-, -, -, r4, -, -, -, -, -, r10⟩ := h
  obtain ⟨t1, t2, -, -, t5, t6, -⟩ := tx43
  have e : b + 1 + 7 = to - 1 := by omega
  by_cases q : eqT id H (b + 1) to 44
  · left
    refine ⟨q, ?_⟩
    have := q.2 7 (by omega)
    rw [e, t6] at this
    exact this
  · right
    refine ⟨q, ?_⟩
    rcases r10 with y | y
    · have := y.2 7 (by omega)
      rw [e, t5] at this
      exact this
    · exact absurd y q
/-- the class -/
theorem x_reqLine (fu : Nat) (hfu : 5000 ≤ fu) (hW : XW M) (h : HD H n A M) (ht : to < n) (h32 : H to ≠ 32) :
    (∃ a b, RLok H to a b ∧ fX7_readRequestLine fu 319 (nI to) M = some (1, sF (sF (sF (sF M 454 319 (nI (oldN H to))) 455 319 (nI (a + 1))) 456 319 (nI b)) 453 319 (nI (meN H a)))) ∨ ((∀ a b, ¬ RLok H to a b) ∧ fX7_readRequestLine fu 319 (nI to) M = some (0, M)) := by
  have hn := h.1
  have o7 := xw_ok319 hW
  have g5 := xw_g450_319 hW
  have hb : ∀ i, H i < 256 := h.2.1
  obtain ⟨a, ha⟩ := Stop.ex (fun i => 65 ≤ H i ∧ H i ≤ 90) (i := 0) (n := to) (by omega)
  obtain ⟨ha1, ha2, ha3, ha4⟩ := ha
  -- the first look
  have l1 : fX7_readRequestLine fu 319 (nI to) M = fX7_readRequestLine_L39 fu 319 (nI to) (nI a) M := by
    have := lpStop (fun m i => fX7_readRequestLine_L2 fu m 319 (nI to) (nI i) M) (⟨ha1, ha2, ha3, ha4⟩ : Stop (fun i => 65 ≤ H i ∧ H i ≤ 90) 0 to a) (fun i => fX7_readRequestLine_L39 fu 319 (nI to) (nI i) M) (fun m x _ g2 hp => by
      have hx := hb x
      rw [fX7_readRequestLine_L2, if_neg (nI_ge g2 (by omega)), gR_ok o7, ob_some, g5, x_oneH fu hW h (by omega), b2_some, if_neg (show ¬ nI (H x) < (65 : Int32) from nI_nlt (b := 65) hp.1 (by omega)), gR_ok o7, ob_some, g5, x_oneH fu hW h (by omega), b2_some, if_neg (show ¬ (90 : Int32) < nI (H x) from nI_nlt (a := 90) hp.2 (by omega)), nI_1]) (fun m x _ g2 hp => by
      have hx := hb x
      rw [fX7_readRequestLine_L2, if_neg (nI_ge g2 (by omega)), gR_ok o7, ob_some, g5, x_oneH fu hW h (by omega), b2_some]
      by_cases q : H x < 65
      · rw [if_pos (show nI (H x) < (65 : Int32) from nI_lt (b := 65) q (by decide))]
      · rw [if_neg (show ¬ nI (H x) < (65 : Int32) from nI_nlt (b := 65) (by omega) (by omega)), gR_ok o7, ob_some, g5, x_oneH fu hW h (by omega), b2_some, if_pos (show (90 : Int32) < nI (H x) from nI_lt (a := 90) (by omega) (by omega))]) (fun m => by
      rw [fX7_readRequestLine_L2, if_pos (nI_le (Nat.le_refl _) (by omega))]) (fu := fu) (by omega)
    exact this
  -- the second
  obtain ⟨b, hb1, hbs, l2⟩ : ∃ b, (a < to → Stop (fun i => 33 ≤ H i ∧ H i ≤ 126) (a + 1) to b) ∧ (a = to → b = to + 1) ∧ fX7_readRequestLine_L39 fu 319 (nI to) (nI a) M = fX7_readRequestLine_L80 fu 319 (nI to) (nI a) (nI b) M := by
    unfold fX7_readRequestLine_L39
    rw [nI_1]
    by_cases q : a < to
    · obtain ⟨b, hs⟩ := Stop.ex (fun i => 33 ≤ H i ∧ H i ≤ 126) (i := a + 1) (n := to) (by omega)
      refine ⟨b, fun _ => hs, fun e => by omega, ?_⟩
      exact lpStop (fun m i => fX7_readRequestLine_L43 fu m 319 (nI to) (nI a) (nI i) M) hs (fun i => fX7_readRequestLine_L80 fu 319 (nI to) (nI a) (nI i) M) (fun m x _ g2 hp => by
        have hx := hb x
        rw [fX7_readRequestLine_L43, if_neg (nI_ge g2 (by omega)), gR_ok o7, ob_some, g5, x_oneH fu hW h (by omega), b2_some, if_neg (show ¬ nI (H x) ≤ (32 : Int32) from nI_ge (a := 32) hp.1 (by omega)), gR_ok o7, ob_some, g5, x_oneH fu hW h (by omega), b2_some, if_neg (show ¬ (127 : Int32) ≤ nI (H x) from nI_ge (b := 127) (by omega) (by decide)), nI_1]) (fun m x _ g2 hp => by
        have hx := hb x
        rw [fX7_readRequestLine_L43, if_neg (nI_ge g2 (by omega)), gR_ok o7, ob_some, g5, x_oneH fu hW h (by omega), b2_some]
        by_cases q : H x ≤ 32
        · rw [if_pos (show nI (H x) ≤ (32 : Int32) from nI_le (b := 32) q (by decide))]
        · rw [if_neg (show ¬ nI (H x) ≤ (32 : Int32) from nI_ge (a := 32) (by omega) (by omega)), gR_ok o7, ob_some, g5, x_oneH fu hW h (by omega), b2_some, if_pos (show (127 : Int32) ≤ nI (H x) from nI_le (a := 127) (by omega) (by omega))]) (fun m => by
        rw [fX7_readRequestLine_L43, if_pos (nI_le (Nat.le_refl _) (by omega))]) (fu := fu) (by omega)
    · refine ⟨a + 1, fun e => absurd e q, fun e => by omega, ?_⟩
      rw [show fu = (fu - 1) + 1 by omega, fX7_readRequestLine_L43, if_pos (nI_le (by omega) (by omega))]
  rw [l1, l2]
  -- only this a and b can be right
  have only : ∀ a' b', RLok H to a' b' → a' = a ∧ b' = b := fun a' b' hr => by
    obtain ⟨r1, r2, r3, r4, r5, r6, r7, r8, r9, r10⟩ := hr
    have e1 : a' = a := Stop.uniq (P := fun i => 65 ≤ H i ∧ H i ≤ 90) (i := 0) (n := to) ⟨by omega, by omega, fun x _ hx => r5 x hx, fun _ e => by have := e.1; omega⟩ ⟨ha1, ha2, ha3, ha4⟩
    subst e1
    exact ⟨rfl, Stop.uniq (P := fun i => 33 ≤ H i ∧ H i ≤ 126) (i := a' + 1) (n := to) ⟨by omega, by omega, fun x g1 g2 => r8 x (by omega) g2, fun _ e => by have := e.1; omega⟩ (hb1 (by omega))⟩
  have no : ¬ RLok H to a b → (∀ a b, ¬ RLok H to a b) := fun e a' b' hr => by
    obtain ⟨e1, e2⟩ := only a' b' hr
    subst e1 e2
    exact e hr
  unfold fX7_readRequestLine_L80
  by_cases p1 : a < 1
  · rw [if_pos (show nI a < (1 : Int32) from nI_lt (b := 1) p1 (by decide)), rN0]
    exact Or.inr ⟨no (fun e => by have := e.1; omega), rfl⟩
  rw [if_neg (show ¬ nI a < (1 : Int32) from nI_nlt (b := 1) (by omega) (by omega))]
  by_cases p2 : 16 < a
  · rw [if_pos (show (16 : Int32) < nI a from nI_lt (a := 16) p2 (by omega)), rN0]
    exact Or.inr ⟨no (fun e => by have := e.2.1; omega), rfl⟩
  rw [if_neg (show ¬ (16 : Int32) < nI a from nI_nlt (a := 16) (by omega) (by omega)), gR_ok o7, ob_some, g5, x_oneH fu hW h (by omega), b2_some]
  by_cases p3 : H a = 32
  rotate_left
  · rw [if_neg (show ¬ nI (H a) = (32 : Int32) from fun e => p3 ((nI_eq (b := 32) (by have := hb a; omega) (by decide)).mp e)), rN0]
    exact Or.inr ⟨no (fun e => p3 e.2.2.2.2.2.1), rfl⟩
  have hat : a < to := by
    by_cases q : a = to
    · rw [q] at p3; exact absurd p3 h32
    · omega
  obtain ⟨s1, s2, s3, s4⟩ := hb1 hat
  rw [if_pos (show nI (H a) = (32 : Int32) by rw [p3]; rfl), gR_ok o7, ob_some, g5, nI_1, x_oneH fu hW h (by omega), b2_some]
  by_cases p4 : H (a + 1) = 47
  rotate_left
  · rw [if_neg (show ¬ nI (H (a + 1)) = (47 : Int32) from fun e => p4 ((nI_eq (b := 47) (by have := hb (a + 1); omega) (by decide)).mp e)), rN0]
    exact Or.inr ⟨no (fun e => p4 e.2.2.2.2.2.2.1), rfl⟩
  rw [if_pos (show nI (H (a + 1)) = (47 : Int32) by rw [p4]; rfl), rc_ok o7, ob_some, x_isText fu (by omega) hW h (by decide) s2 (by omega), b2_some, if10]
  have q0 := eqT0 (H := H) (b := b) (to := to) 0 44 (Or.inl ⟨rfl, rfl⟩)
  have q1 := eqT0 (H := H) (b := b) (to := to) 1 43 (Or.inr ⟨rfl, rfl⟩)
  obtain ⟨t1, t2, t3, t4, -⟩ := tx43
  have good : (eqT id H b to 0 ∨ eqT id H b to 1) → RLok H to a b := fun e => by
    have e9 : to = b + 9 := by
      rcases e with y | y
      · have := y.1; omega
      · have := y.1; omega
    have hab : a + 1 < b := by
      by_cases z : b = a + 1
      · exfalso
        have : H b = 32 := e.elim (fun y => (q0.mp y).1) (fun y => (q1.mp y).1)
        rw [z, p4] at this
        cases this
      · omega
    refine ⟨by omega, by omega, hab, by omega, fun i hi => ha3 i (by omega) hi, p3, p4, fun i g1 g2 => s3 i (by omega) g2, e.elim (fun y => (q0.mp y).1) (fun y => (q1.mp y).1), ?_⟩
    exact e.elim (fun y => Or.inr (q0.mp y).2) (fun y => Or.inl (q1.mp y).2)
  -- what is noted
  have fin : RLok H to a b → ∀ x : Int32, x = nI (oldN H to) → fX7_readRequestLine_L160 fu 319 (nI a) (nI b) (some 319) x M = some (1, sF (sF (sF (sF M 454 319 (nI (oldN H to))) 455 319 (nI (a + 1))) 456 319 (nI b)) 453 319 (nI (meN H a))) := fun hr x hx => by
    unfold fX7_readRequestLine_L160
    have hz : x = 0 ∨ x = 1 := by
      rw [hx]
      unfold oldN
      split
      · exact Or.inr rfl
      · exact Or.inl rfl
    rw [pZ_ok o7 hz, ob_some, hx, nI_1, pF_ok (by rw [ok_sF]; exact o7), ob_some, pF_ok (by rw [ok_sF, ok_sF]; exact o7), ob_some]
    generalize hN : sF (sF (sF M 454 319 (nI (oldN H to))) 455 319 (nI (a + 1))) 456 319 (nI b) = N
    have hWN : XW N := by subst hN; exact hW
    have hHN : HD H n A N := by subst hN; exact h
    have oN := xw_ok319 hWN
    have tA : fX7_isText fu 319 (0 : Int32) (nI a) (some 2) N = some (if eqT id H 0 a 2 then 1 else 0, N) := x_isText fu (by omega) hWN hHN (f := 0) (by decide) (by omega) (by omega)
    have tB : fX7_isText fu 319 (0 : Int32) (nI a) (some 3) N = some (if eqT id H 0 a 3 then 1 else 0, N) := x_isText fu (by omega) hWN hHN (f := 0) (by decide) (by omega) (by omega)
    rw [rc_ok oN, ob_some, tA, b2_some, if10, rc_ok oN, ob_some, tB, b2_some, if10, pF_ok oN, ob_some, pF_ok oN, ob_some, pF_ok oN, ob_some, rN1, rN1, rN1]
    unfold meN
    by_cases y1 : eqT id H 0 a 2
    · have y2 : ¬ eqT id H 0 a 3 := fun e => by
        have z1 := y1.1
        have z2 := e.1
        rw [tx23.1] at z1
        rw [tx23.2] at z2
        omega
      rw [if_pos y1, if_neg y2, if_pos y1]
      rfl
    · rw [if_neg y1]
      by_cases y2 : eqT id H 0 a 3
      · rw [if_pos y2, if_pos y2]
        rfl
      · rw [if_neg y2, if_neg y2, if_neg y1]
        rfl
  unfold fX7_readRequestLine_L149
  by_cases y0 : eqT id H b to 0
  · have hr := good (Or.inl y0)
    rw [if_pos y0, if_neg (show ¬ (if eqT id H b to 0 then (1 : Int32) else 0) = 0 by rw [if_pos y0]; decide)]
    refine Or.inl ⟨a, b, hr, fin hr 0 ?_⟩
    unfold oldN
    rcases RL_old hr with ⟨z1, z2⟩ | ⟨z1, z2⟩
    · rw [if_neg (by omega)]; rfl
    · exact absurd (q0.mp y0).2 z1
  · rw [if_neg y0, rc_ok o7, ob_some, x_isText fu (by omega) hW h (by decide) s2 (by omega), b2_some, if10]
    by_cases y1 : eqT id H b to 1
    · have hr := good (Or.inr y1)
      rw [if_pos y1, if_pos (show (if eqT id H b to 0 then (1 : Int32) else 0) = 0 by rw [if_neg y0])]
      refine Or.inl ⟨a, b, hr, fin hr 1 ?_⟩
      unfold oldN
      rcases RL_old hr with ⟨z1, z2⟩ | ⟨z1, z2⟩
      · exact absurd (q0.mpr ⟨(q1.mp y1).1, z1⟩) y0
      · rw [if_pos z2]; rfl
    · rw [if_neg y1, rN0]
      refine Or.inr ⟨no (fun e => ?_), rfl⟩
      have h9 := e.2.2.2.2.2.2.2.2.1
      rcases e.2.2.2.2.2.2.2.2.2 with z | z
      · exact y1 (q1.mpr ⟨h9, z⟩)
      · exact y0 (q0.mpr ⟨h9, z⟩)
end Line
