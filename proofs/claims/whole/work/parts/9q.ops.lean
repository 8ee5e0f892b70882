/-! ===== part 9q: one call after the other, in one memory ===== -/
section Ops
variable {A M A1 M1 X : Mm} {KN KS t T im ig F ek ty nw : Nat}
theorem Bd_sx (h : Bd RM TM A) (s : Sm RX A A1) (b : Bd RX TX A1) : Bd RM TM A1 := by
  obtain ⟨b1, b2, b3, b4, b5⟩ := h
  obtain ⟨a1, a2, a3, a4, a5, a6, -, a8⟩ := s
  have n : ∀ a, RM a → ¬ RX a := fun a h => by unfold RM at h; unfold RX; omega
  refine ⟨fun a c ha hc => ?_, fun f a d ha hd => ?_, fun a i d ha hd => ?_, by omega, b.2.2.2.2⟩
  · obtain ⟨h1, h2, h3⟩ := ha
    by_cases q : a < sN (mS A)
    · exact b1 a c ⟨h1, q, by rw [← (a5 a q).1]; exact h3⟩ hc
    · have := a8 a (by omega) h2
      unfold TM at hc
      omega
  · rw [a2 f a (n a ha)] at hd
    exact b2 f a d ha hd
  · rw [a4 a i (n a ha)] at hd
    exact b3 a i d ha hd
theorem Bd_sm (h : Bd RX TX M) (s : Sm RM M M1) (b : Bd RM TM M1) : Bd RX TX M1 := by
  obtain ⟨b1, b2, b3, b4, b5⟩ := h
  obtain ⟨a1, a2, a3, a4, -, -, a7, -⟩ := s
  have eS : mS M1 = mS M := a7 (by unfold RM; omega)
  have n : ∀ a, RX a → ¬ RM a := fun a h => by unfold RX at h; unfold RM; omega
  refine ⟨fun a c ha hc => b1 a c (by unfold okA at *; rw [← eS]; exact ha) hc, fun f a d ha hd => ?_, fun a i d ha hd => ?_, by rw [eS]; exact b4, b.2.2.2.2⟩
  · rw [a2 f a (n a ha)] at hd
    exact b2 f a d ha hd
  · rw [a4 a i (n a ha)] at hd
    exact b3 a i d ha hd
/-- the class's call, then the reference's -/
theorem one_op {f g : Mm → Option (Int32 × Mm)} {Q : Int32 → Mm → Mm → Prop} (h : JJ X X KN KS t T im ig F ek ty nw) (hf : ∀ M out, Bd RX TX M → f M = some out → Sm RX M out.2 ∧ Bd RX TX out.2) (hg : ∀ M out, Bd RM TM M → g M = some out → Sm RM M out.2 ∧ Bd RM TM out.2) (sp : ∀ A, JJ A X KN KS t T im ig F ek ty nw → ∃ v A' M', g A = some (v, A') ∧ f X = some (v, M') ∧ Q v A' M') :
    ∃ v X1 X2, f X = some (v, X1) ∧ g X1 = some (v, X2) ∧ Q v X2 X1 ∧ Sm RM X1 X2 ∧ Bd RM TM X2 ∧ Bd RX TX X2 := by
  obtain ⟨v0, A0, X1, -, p2, -⟩ := sp X h
  obtain ⟨s1, b1⟩ := hf X _ h.bm p2
  have bA := Bd_sx h.ba s1 b1
  obtain ⟨v, X2, M', q1, q2, q3⟩ := sp X1 (JJ_sx h (SmR_of s1 h.bm.2.2.2.1) bA)
  rw [p2] at q2
  obtain ⟨rfl, rfl⟩ := Prod.mk.inj (Option.some.inj q2)
  obtain ⟨s2, b2⟩ := hg X1 _ bA q1
  exact ⟨v0, X1, X2, p2, q1, q3, s2, b2, Bd_sm b1 s2 b2⟩
theorem op_pass (fu : Nat) (hfu : 100000 ≤ fu) (h : JJ X X KN KS t T im ig F ek ty nw) (hT : T + 150000 < 2 ^ 30) (a1 : Int32) : ∃ v X1 X2 T' nw', fX11_pass fu 300 a1 X = some (v, X1) ∧ fX16_pass fu 323 a1 X1 = some (v, X2) ∧ T ≤ T' ∧ T' ≤ T + 7716 ∧ JJ X2 X2 KN KS t T' im ig F ek ty nw' := by
  obtain ⟨v, X1, X2, p1, p2, ⟨T', nw', p3, p4, p5⟩, p6, p7, p8⟩ := one_op (f := fX11_pass fu 300 a1) (g := fX16_pass fu 323 a1) (Q := fun _ A' M' => ∃ T' nw', T ≤ T' ∧ T' ≤ T + 7716 ∧ JJ A' M' KN KS t T' im ig F ek ty nw') h (fun M out b e => oX11_pass fu 300 a1 M b (by unfold RX; omega) e) (fun M out b e => oX16_pass fu 323 a1 M b (by unfold RM; omega) e) (fun A hA => by
    obtain ⟨v, A', M', T', nw', r1, r2, r3, r4, r5⟩ := sp_passC fu hfu hA hT a1
    exact ⟨v, A', M', r1, r2, T', nw', r3, r4, r5⟩)
  exact ⟨v, X1, X2, T', nw', p1, p2, p3, p4, JJ_sm p5 p6 p8⟩
theorem op_arrive (fu : Nat) (hfu : 100000 ≤ fu) (h : JJ X X KN KS t T im ig F ek ty nw) (hT : T + 210000 < 2 ^ 30) (ht : t ≤ 590) (a1 : Int32) : ∃ v X1 X2 T' ty' nw' u, fX11_arrive fu 300 a1 X = some (v, X1) ∧ fX16_arrive fu 323 a1 X1 = some (v, X2) ∧ T ≤ T' ∧ T' ≤ T + 77716 ∧ ((u = 0 ∧ ty' = ty) ∨ (u = 2 ∧ ty ≠ 0 ∧ ty' = 0)) ∧ JJ X2 X2 KN KS (t + u) T' im ig F ek ty' nw' := by
  obtain ⟨v, X1, X2, p1, p2, ⟨T', ty', nw', u, p3, p4, p5, p6⟩, p7, p8, p9⟩ := one_op (f := fX11_arrive fu 300 a1) (g := fX16_arrive fu 323 a1) (Q := fun _ A' M' => ∃ T' ty' nw' u, T ≤ T' ∧ T' ≤ T + 77716 ∧ ((u = 0 ∧ ty' = ty) ∨ (u = 2 ∧ ty ≠ 0 ∧ ty' = 0)) ∧ JJ A' M' KN KS (t + u) T' im ig F ek ty' nw') h (fun M out b e => oX11_arrive fu 300 a1 M b (by unfold RX; omega) e) (fun M out b e => oX16_arrive fu 323 a1 M b (by unfold RM; omega) e) (fun A hA => by
    obtain ⟨v, A', M', T', ty', nw', u, r1, r2, r3, r4, r5, r6⟩ := sp_arriveC fu hfu hA hT ht a1
    exact ⟨v, A', M', r1, r2, T', ty', nw', u, r3, r4, r5, r6⟩)
  exact ⟨v, X1, X2, T', ty', nw', u, p1, p2, p3, p4, p5, JJ_sm p6 p7 p9⟩
end Ops
