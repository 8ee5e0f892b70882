/-! ===== part 9w0: no object of kind 0 is the last cell ===== -/
def Lst0 (M : Mm) : Prop := ∀ a, okA M 0 a → a + 1 < sN (mS M)
section Lst
variable {M M' : Mm}
theorem e_pF {c f : Nat} {o : Option Nat} {v : Int32} (hB : Lst0 M) (h : pF M c f o v = some M') : Lst0 M' := by
  obtain ⟨a, rfl, ha, rfl⟩ := pF_some h
  exact hB
theorem e_pZ {c f : Nat} {o : Option Nat} {v : Int32} (hB : Lst0 M) (h : pZ M c f o v = some M') : Lst0 M' := by
  unfold pZ at h
  by_cases hv : v = 0 ∨ v = 1
  · rw [if_pos hv] at h
    exact e_pF hB h
  · rw [if_neg hv] at h
    cases h
theorem e_pG {c f : Nat} {o v : Option Nat} (hB : Lst0 M) (h : pG M c f o v = some M') : Lst0 M' := by
  obtain ⟨a, rfl, ha, rfl⟩ := pG_some h
  exact hB
theorem e_pA {t : Nat} {o : Option Nat} {i v : Int32} (hB : Lst0 M) (h : pA M t o i v = some M') : Lst0 M' := by
  obtain ⟨a, rfl, ha, rfl⟩ := pA_some h
  exact hB
theorem e_pB {t : Nat} {o v : Option Nat} {i : Int32} (hB : Lst0 M) (h : pB M t o i v = some M') : Lst0 M' := by
  obtain ⟨a, rfl, ha, -, rfl⟩ := pB_some h
  exact hB
theorem e_cp {src dst : Option Nat} {sp dp n : Int32} (hB : Lst0 M) (h : cpB M src sp dst dp n = some M') : Lst0 M' := by
  obtain ⟨a, b, rfl, rfl, ha, -, -, -, -, -, -, -, rfl⟩ := cpB_some h
  exact hB
theorem e_new {t len k : Nat} (ht : t ≠ 0) (hS : mS M' = nSh (mS M) t len k) : Lst0 M' := fun a o => by
  have o1 := o.2.1
  have o2 := o.2.2
  rw [hS] at o1 o2 ⊢
  have o1 : a < sN (mS M) + 1 := o1
  show a + 1 < sN (mS M) + 1
  by_cases q : a = sN (mS M)
  · exact absurd ((show (if a = sN (mS M) then t else (mS M).1 a) = 0 from o2).symm.trans (if_pos q)) (Ne.symm ht)
  · omega
theorem e_mkO {c a : Nat} (hc : c ≠ 0) (h : mkO M c = some (a, M')) : Lst0 M' := by
  obtain ⟨-, h2⟩ := ite_some h
  have := congrArg Prod.snd h2
  subst this
  exact e_new hc rfl
theorem e_mkA {t a : Nat} {n : Int32} (ht : t ≠ 0) (h : mkA M t n = some (a, M')) : Lst0 M' := by
  obtain ⟨-, -, rfl⟩ := mkA_some h
  exact e_new ht rfl
theorem e_cln {src : Option Nat} {q : Nat} (h : clnB M src = some (q, M')) : Lst0 M' := by
  obtain ⟨a, -, -, -, -, -, rfl⟩ := clnB_some h
  exact e_new (t := 100) (by decide) rfl
theorem e_X0init {fu a0 : Nat} (h : fX0_init fu a0 M = some M') : Lst0 M' := by
  unfold fX0_init at h
  obtain ⟨v1, M2, e2, h⟩ := b2d h
  obtain ⟨M3, e3, h⟩ := bd h
  obtain ⟨v4, M5, e5, h⟩ := b2d h
  obtain ⟨M6, e6, h⟩ := bd h
  obtain rfl := Option.some.inj h
  exact e_pG (e_mkA (by decide) e5) e6
theorem Lst0_sm (hB : Lst0 M) (s : Sm RM M M') : Lst0 M' := by
  have e := s.2.2.2.2.2.2.1 (by unfold RM; omega)
  intro a o
  unfold okA at o
  rw [e] at o ⊢
  exact hB a o
end Lst
