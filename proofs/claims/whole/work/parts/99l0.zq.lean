/-! ===== part 99l0: what no function but alone changes ===== -/
/-- numbers and ports of connections, and how many were begun, are as they were -/
def Zq (M M' : Mm) : Prop := mS M' = mS M ∧ mG M' = mG M ∧ mB M' = mB M ∧ (∀ f a, f = 769 ∨ f = 770 ∨ f = 1036 → mF M' f a = mF M f a) ∧ mA M' 330 5 = mA M 330 5 ∧ (∀ a, mF M' 791 a = mF M 791 a ∨ mF M' 791 a = 0)
section Zz
variable {M M' M'' : Mm}
theorem Zq.rf : Zq M M := ⟨rfl, rfl, rfl, fun _ _ _ => rfl, rfl, fun _ => Or.inl rfl⟩
theorem Zq.tr (h : Zq M M') (g : Zq M' M'') : Zq M M'' := ⟨g.1.trans h.1, g.2.1.trans h.2.1, g.2.2.1.trans h.2.2.1, fun f a n => (g.2.2.2.1 f a n).trans (h.2.2.2.1 f a n), g.2.2.2.2.1.trans h.2.2.2.2.1, fun a => by
  rcases g.2.2.2.2.2 a with q | q
  · rcases h.2.2.2.2.2 a with q' | q'
    · exact Or.inl (q.trans q')
    · exact Or.inr (q.trans q')
  · exact Or.inr q⟩
theorem z_pF {c f : Nat} {o : Option Nat} {v : Int32} (hB : RW M) (h : pF M c f o v = some M') (hf : ¬ (f = 769 ∨ f = 770 ∨ f = 1036 ∨ f = 791)) : Zq M M' ∧ RW M' := by
  obtain ⟨a, rfl, ha, rfl⟩ := pF_some h
  exact ⟨⟨rfl, rfl, rfl, fun g b n => by rw [mF_sF, if_neg (fun e => hf (by omega))], rfl, fun b => Or.inl (by rw [mF_sF, if_neg (fun e => hf (by omega))])⟩, hB⟩
theorem z_p0 {c : Nat} {o : Option Nat} (hB : RW M) (h : pF M c 791 o (0 : Int32) = some M') : Zq M M' ∧ RW M' := by
  obtain ⟨a, rfl, ha, rfl⟩ := pF_some h
  refine ⟨⟨rfl, rfl, rfl, fun g b n => by rw [mF_sF, if_neg (by omega)], rfl, fun b => ?_⟩, hB⟩
  rw [mF_sF]
  by_cases q : 791 = 791 ∧ b = a
  · rw [if_pos q]; exact Or.inr rfl
  · rw [if_neg q]; exact Or.inl rfl
theorem z_pZ {c f : Nat} {o : Option Nat} {v : Int32} (hB : RW M) (h : pZ M c f o v = some M') (hf : ¬ (f = 769 ∨ f = 770 ∨ f = 1036 ∨ f = 791)) : Zq M M' ∧ RW M' := by
  unfold pZ at h
  by_cases hv : v = 0 ∨ v = 1
  · rw [if_pos hv] at h
    exact z_pF hB h hf
  · rw [if_neg hv] at h
    cases h
theorem z_sA {a i : Nat} {v : Int32} (hB : RW M) (h : ¬ (a = 330 ∧ i = 5)) : Zq M (sA M a i v) ∧ RW (sA M a i v) := by
  refine ⟨⟨rfl, rfl, rfl, fun _ _ _ => rfl, ?_, fun _ => Or.inl rfl⟩, hB⟩
  show (if 330 = a ∧ 5 = i then v else mA M 330 5) = mA M 330 5
  rw [if_neg (fun e => h ⟨e.1.symm, e.2.symm⟩)]
theorem z_pA {t : Nat} {o : Option Nat} {i v : Int32} (hB : RW M) (ht : t ≠ 101) (h : pA M t o i v = some M') : Zq M M' ∧ RW M' := by
  obtain ⟨a, rfl, ha, rfl⟩ := pA_some h
  refine z_sA hB (fun e => ?_)
  have h1 := ha.1.2.2
  rw [e.1] at h1
  exact ht (h1.symm.trans (rw_ok330 hB).2.2)
theorem clamp5 {i : Int32} (h : i.toNatClampNeg = 5) : i = 5 := by
  have h1 : i.toInt.toNat = 5 := h
  have h2 : i.toInt = 5 := by omega
  exact Int32.toInt_inj.mp (by rw [h2]; rfl)
theorem z_pI {o : Option Nat} {i v : Int32} (hB : RW M) (h : pA M 101 o i v = some M') (hi : i ≠ 5) : Zq M M' ∧ RW M' := by
  obtain ⟨a, rfl, ha, rfl⟩ := pA_some h
  exact z_sA hB (fun e => hi (clamp5 e.2))
theorem z_pK {a' : Nat} {o : Option Nat} {i v : Int32} (hB : RW M) (ho : o = some a') (ha' : a' ≠ 330) (h : pA M 101 o i v = some M') : Zq M M' ∧ RW M' := by
  obtain ⟨a, e, ha, rfl⟩ := pA_some h
  refine z_sA hB (fun z => ha' ?_)
  rw [ho] at e
  have := Option.some.inj e
  omega
theorem z_gR {f x a0 : Nat} {v : Option Nat} (_ : RW M) (r : a0 = 323) (g : mG M f 323 = some x) (e : gR M 16 f (some a0) = some v) : v = some x := by
  obtain ⟨a, e1, -, e3⟩ := gR_some e
  have := Option.some.inj e1
  subst this
  rw [e3, r, g]
theorem z_some {a : Nat} (h : a = 323) : some a = some 323 := by rw [h]
theorem z_rc {o : Option Nat} {q : Nat} (h : o = some 323) (e : rc M 16 o = some q) : q = 323 := by
  have := (rc_some e).1
  rw [h] at this
  exact (Option.some.inj this).symm
end Zz
