/-! ===== part 99l0: what no function but alone changes ===== -/
/-- numbers and ports of connections, and how many were begun, are as they were -/
def Zq (M M' : Mm) : Prop := mS M' = mS M ∧ mG M' = mG M ∧ mB M' = mB M ∧ (∀ f a, f = 769 ∨ f = 770 ∨ f = 1036 → mF M' f a = mF M f a) ∧ mA M' 330 5 = mA M 330 5
/-- the count of those begun goes with its number -/
def Zw (M M' : Mm) : Prop := mS M' = mS M ∧ mG M' = mG M ∧ mB M' = mB M ∧ (mA M 330 5 = mF M 1036 323 → mA M' 330 5 = mF M' 1036 323)
section Zz
variable {M M' M'' : Mm}
theorem Zq.rf : Zq M M := ⟨rfl, rfl, rfl, fun _ _ _ => rfl, rfl⟩
theorem Zw.rf : Zw M M := ⟨rfl, rfl, rfl, fun h => h⟩
theorem Zq.tr (h : Zq M M') (g : Zq M' M'') : Zq M M'' := ⟨g.1.trans h.1, g.2.1.trans h.2.1, g.2.2.1.trans h.2.2.1, fun f a n => (g.2.2.2.1 f a n).trans (h.2.2.2.1 f a n), g.2.2.2.2.trans h.2.2.2.2⟩
theorem Zw.tr (h : Zw M M') (g : Zw M' M'') : Zw M M'' := ⟨g.1.trans h.1, g.2.1.trans h.2.1, g.2.2.1.trans h.2.2.1, fun n => g.2.2.2 (h.2.2.2 n)⟩
theorem Zq.w (h : Zq M M') : Zw M M' := ⟨h.1, h.2.1, h.2.2.1, fun n => by rw [h.2.2.2.2, n, h.2.2.2.1 1036 323 (by omega)]⟩
theorem z2w (h : Zq M M' ∧ RW M') : Zw M M' ∧ RW M' := ⟨h.1.w, h.2⟩
theorem z_pF {c f : Nat} {o : Option Nat} {v : Int32} (hB : RW M) (h : pF M c f o v = some M') (hf : ¬ (f = 769 ∨ f = 770 ∨ f = 1036)) : Zq M M' ∧ RW M' := by
  obtain ⟨a, rfl, ha, rfl⟩ := pF_some h
  exact ⟨⟨rfl, rfl, rfl, fun g b n => by rw [mF_sF, if_neg (fun e => hf (by omega))], rfl⟩, hB⟩
theorem z_pZ {c f : Nat} {o : Option Nat} {v : Int32} (hB : RW M) (h : pZ M c f o v = some M') (hf : ¬ (f = 769 ∨ f = 770 ∨ f = 1036)) : Zq M M' ∧ RW M' := by
  unfold pZ at h
  by_cases hv : v = 0 ∨ v = 1
  · rw [if_pos hv] at h
    exact z_pF hB h hf
  · rw [if_neg hv] at h
    cases h
theorem z_sA {a i : Nat} {v : Int32} (hB : RW M) (h : ¬ (a = 330 ∧ i = 5)) : Zq M (sA M a i v) ∧ RW (sA M a i v) := by
  refine ⟨⟨rfl, rfl, rfl, fun _ _ _ => rfl, ?_⟩, hB⟩
  show (if 330 = a ∧ 5 = i then v else mA M 330 5) = mA M 330 5
  rw [if_neg (fun e => h ⟨e.1.symm, e.2.symm⟩)]
theorem z_pA {t : Nat} {o : Option Nat} {i v : Int32} (hB : RW M) (ht : t ≠ 101) (h : pA M t o i v = some M') : Zq M M' ∧ RW M' := by
  obtain ⟨a, rfl, ha, rfl⟩ := pA_some h
  refine z_sA hB (fun e => ?_)
  have h1 := ha.1.2.2
  rw [e.1] at h1
  exact ht (h1.symm.trans (rw_ok330 hB).2.2)
theorem clamp5 {i : Int32} (h : i.toNatClampNeg = 5) : i = 5 := by
  have h1 : i.toInt.toNat = 5 := h
  have h2 : i.toInt = 5 := by omega
  exact Int32.toInt_inj.mp (by rw [h2]; rfl)
theorem z_pI {o : Option Nat} {i v : Int32} (hB : RW M) (h : pA M 101 o i v = some M') (hi : i ≠ 5) : Zq M M' ∧ RW M' := by
  obtain ⟨a, rfl, ha, rfl⟩ := pA_some h
  exact z_sA hB (fun e => hi (clamp5 e.2))
theorem z_pK {a' : Nat} {o : Option Nat} {i v : Int32} (hB : RW M) (ho : o = some a') (ha' : a' ≠ 330) (h : pA M 101 o i v = some M') : Zq M M' ∧ RW M' := by
  obtain ⟨a, e, ha, rfl⟩ := pA_some h
  refine z_sA hB (fun z => ha' ?_)
  rw [ho] at e
  have := Option.some.inj e
  omega
theorem z_gR {f x a0 : Nat} {v : Option Nat} (_ : RW M) (r : a0 = 323) (g : mG M f 323 = some x) (e : gR M 16 f (some a0) = some v) : v = some x := by
  obtain ⟨a, e1, -, e3⟩ := gR_some e
  have := Option.some.inj e1
  subst this
  rw [e3, r, g]
theorem z_some {a : Nat} (h : a = 323) : some a = some 323 := by rw [h]
theorem z_rc {o : Option Nat} {q : Nat} (h : o = some 323) (e : rc M 16 o = some q) : q = 323 := by
  have := (rc_some e).1
  rw [h] at this
  exact (Option.some.inj this).symm
theorem w_pF {c f : Nat} {o : Option Nat} {v : Int32} (hB : RW M) (h : pF M c f o v = some M') (hf : f ≠ 1036) : Zw M M' ∧ RW M' := by
  obtain ⟨a, rfl, ha, rfl⟩ := pF_some h
  refine ⟨⟨rfl, rfl, rfl, fun n => ?_⟩, hB⟩
  rw [mF_sF, if_neg (fun e => hf e.1.symm)]
  exact n
theorem w_pair {a0 : Nat} {v1 v4 : Int32} {v3 : Option Nat} {M2 M5 : Mm} (hB : RW M) (r : a0 = 323) (e1 : gI M 16 1036 (some a0) = some v1) (e2 : pF M 16 1036 (some a0) (v1 + (1 : Int32)) = some M2) (e3 : gR M2 16 1041 (some a0) = some v3) (e4 : gA M2 101 v3 (5 : Int32) = some v4) (e5 : pA M2 101 v3 (5 : Int32) (v4 + (1 : Int32)) = some M5) : Zw M M5 ∧ RW M5 := by
  subst r
  have o := rw_ok323 hB
  rw [gI_ok o] at e1
  rw [pF_ok o] at e2
  have e1 := Option.some.inj e1
  have e2 := Option.some.inj e2
  subst e1 e2
  have hB2 : RW (sF M 1036 323 (mF M 1036 323 + 1)) := hB
  rw [gR_ok (rw_ok323 hB2), rw_g1041_323 hB2] at e3
  have e3 := Option.some.inj e3
  subst e3
  have e4' : gA (sF M 1036 323 (mF M 1036 323 + 1)) 101 (some 330) (nI 5) = some v4 := e4
  rw [gA_ok (rw_ok330 hB2) (by rw [rw_ln330 hB2]; decide) (by decide)] at e4'
  have e4 := Option.some.inj e4'
  subst e4
  have e5' : pA (sF M 1036 323 (mF M 1036 323 + 1)) 101 (some 330) (nI 5) (mA M 330 5 + 1) = some M5 := e5
  rw [pA_ok (rw_ok330 hB2) (by rw [rw_ln330 hB2]; decide) (by decide)] at e5'
  have e5 := Option.some.inj e5'
  subst e5
  refine ⟨⟨rfl, rfl, rfl, fun n => ?_⟩, hB⟩
  rw [mA_wA_self, mF_wA, mF_sF]
  show (if 5 = 5 then mA M 330 5 + 1 else mA M 330 5) = (if 1036 = 1036 ∧ 323 = 323 then mF M 1036 323 + 1 else mF M 1036 323)
  rw [if_pos rfl, if_pos ⟨rfl, rfl⟩, n]
end Zz
