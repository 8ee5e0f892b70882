/-! ===== part 9zd0: what holds of all that is made at the start ===== -/
def HI (M : Mm) : Prop := (∀ f a b, mG M f a = some b → okA M (f / 64) a ∧ f < 1087) ∧ (∀ a i b, mB M a i = some b → ∃ t, okA M t a ∧ 110 ≤ t ∧ i < sLen (mS M) a) ∧ (∀ a i, mA M a i = 0) ∧ ∀ f a, mF M f a = 0
section Hi
variable {M M' : Mm}
theorem h_pG {c f : Nat} {o v : Option Nat} (hB : HI M) (hf : f / 64 = c ∧ f < 1087) (h : pG M c f o v = some M') : HI M' := by
  obtain ⟨a, rfl, ha, rfl⟩ := pG_some h
  obtain ⟨h1, h2, h3, h4⟩ := hB
  refine ⟨fun g b d e => ?_, h2, h3, h4⟩
  rw [mG_sG] at e
  by_cases q : g = f ∧ b = a
  · rw [q.1, q.2, hf.1]; exact ⟨ha, hf.2⟩
  · rw [if_neg q] at e
    exact h1 g b d e
theorem h_pB {c : Nat} {o v : Option Nat} {i : Int32} (hB : HI M) (h : pB M c o i v = some M') : HI M' := by
  obtain ⟨a, rfl, ha, -, rfl⟩ := pB_some h
  obtain ⟨h1, h2, h3, h4⟩ := hB
  refine ⟨h1, fun b j d e => ?_, h3, h4⟩
  rw [mB_sB] at e
  by_cases q : b = a ∧ j = i.toNatClampNeg
  · rw [q.1, q.2]
    exact ⟨110 + c, ha.1, Nat.le_add_right _ _, ha.2.2⟩
  · rw [if_neg q] at e
    exact h2 b j d e
theorem h_new {t len k : Nat} (hS : mS M' = nSh (mS M) t len k) {x a : Nat} (o : okA M x a) : okA M' x a ∧ sLen (mS M') a = sLen (mS M) a := by
  have h1 := o.2.1
  rw [show okA M' x a ↔ 300 ≤ a ∧ a < sN (mS M') ∧ sTy (mS M') a = x from Iff.rfl, hS]
  refine ⟨⟨o.1, Nat.lt_succ_of_lt h1, ?_⟩, ?_⟩
  · exact (if_neg (show ¬ a = sN (mS M) by omega)).trans o.2.2
  · exact if_neg (show ¬ a = sN (mS M) by omega)
theorem h_mkO {c q : Nat} (hB : HI M) (h : mkO M c = some (q, M')) : HI M' := by
  obtain ⟨-, h2⟩ := ite_some h
  have := congrArg Prod.snd h2
  subst this
  obtain ⟨h1, h2, h3, h4⟩ := hB
  refine ⟨fun f a b e => ?_, fun a i b e => ?_, h3, fun f a => ?_⟩
  · have e : (if a = sN (mS M) then none else mG M f a) = some b := e
    by_cases z : a = sN (mS M)
    · rw [if_pos z] at e; cases e
    · rw [if_neg z] at e
      exact ⟨(h_new rfl (h1 f a b e).1).1, (h1 f a b e).2⟩
  · obtain ⟨t, o, t1, t2⟩ := h2 a i b e
    obtain ⟨o1, o2⟩ := h_new (M' := nO M c (clN c)) rfl o
    exact ⟨t, o1, t1, by rw [o2]; exact t2⟩
  · show (if a = sN (mS M) then 0 else mF M f a) = 0
    rw [h4]
    by_cases z : a = sN (mS M)
    · rw [if_pos z]
    · rw [if_neg z]
theorem h_mkA {t q : Nat} {n : Int32} (hB : HI M) (h : mkA M t n = some (q, M')) : HI M' := by
  obtain ⟨-, -, rfl⟩ := mkA_some h
  obtain ⟨h1, h2, h3, h4⟩ := hB
  refine ⟨fun f a b e => ⟨(h_new rfl (h1 f a b e).1).1, (h1 f a b e).2⟩, fun a i b e => ?_, fun a i => ?_, h4⟩
  · have e : (if a = sN (mS M) then none else mB M a i) = some b := e
    by_cases z : a = sN (mS M)
    · rw [if_pos z] at e; cases e
    · rw [if_neg z] at e
      obtain ⟨x, o, t1, t2⟩ := h2 a i b e
      obtain ⟨o1, o2⟩ := h_new (M' := nA M t n.toNatClampNeg) rfl o
      exact ⟨x, o1, t1, by rw [o2]; exact t2⟩
  · show (if a = sN (mS M) then 0 else mA M a i) = 0
    rw [h3]
    by_cases z : a = sN (mS M)
    · rw [if_pos z]
    · rw [if_neg z]
theorem h_00 : HI M00 := ⟨fun _ _ _ e => (by cases e), fun _ _ _ e => (by cases e), fun _ _ => rfl, fun _ _ => rfl⟩
end Hi
