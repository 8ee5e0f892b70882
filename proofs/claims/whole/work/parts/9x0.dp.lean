/-! ===== part 9x0: what stays small in the reference: duplicates and ports ===== -/
def DP (n : Nat) (M : Mm) : Prop := ∀ a, (okA M 12 a → (∃ d, d ≤ n ∧ mF M 792 a = nI d) ∧ (∃ p, p < 65536 ∧ mF M 770 a = nI p)) ∧ (okA M 16 a → ∃ p, p < 65536 ∧ mF M 1056 a = nI p)
theorem nx_or (a b : Nat) : nI a ||| nI b = nI (a ||| b) := by
  apply Int32.toBitVec_inj.1
  show BitVec.ofNat 32 a ||| BitVec.ofNat 32 b = BitVec.ofNat 32 (a ||| b)
  apply BitVec.eq_of_getLsbD_eq
  intro i hi
  simp [hi]
section Dp
variable {M M' : Mm} {n : Nat}
theorem DP_s (h : DP n M) : DP (n + 1) M := fun a => by
  refine ⟨fun o => ?_, (h a).2⟩
  obtain ⟨⟨d, d1, d2⟩, p⟩ := (h a).1 o
  exact ⟨⟨d, by omega, d2⟩, p⟩
theorem d_pF {c f : Nat} {o : Option Nat} {v : Int32} (hB : DP n M) (h : pF M c f o v = some M') (hf : ¬ (f = 792 ∨ f = 770 ∨ f = 1056)) : DP n M' := by
  obtain ⟨a, rfl, ha, rfl⟩ := pF_some h
  intro b
  refine ⟨fun o => ?_, fun o => ?_⟩
  · rw [mF_sF, mF_sF, if_neg (fun e => hf (by omega)), if_neg (fun e => hf (by omega))]
    exact (hB b).1 o
  · rw [mF_sF, if_neg (fun e => hf (by omega))]
    exact (hB b).2 o
theorem d_pZ {c f : Nat} {o : Option Nat} {v : Int32} (hB : DP n M) (h : pZ M c f o v = some M') (hf : ¬ (f = 792 ∨ f = 770 ∨ f = 1056)) : DP n M' := by
  unfold pZ at h
  by_cases hv : v = 0 ∨ v = 1
  · rw [if_pos hv] at h
    exact d_pF hB h hf
  · rw [if_neg hv] at h
    cases h
theorem d_p0 {o : Option Nat} (hB : DP n M) (h : pF M 12 792 o (0 : Int32) = some M') : DP n M' := by
  obtain ⟨a, rfl, ha, rfl⟩ := pF_some h
  intro b
  refine ⟨fun o => ?_, fun o => ?_⟩
  · rw [mF_sF, mF_sF, if_neg (show ¬ (770 = 792 ∧ b = a) by omega)]
    refine ⟨?_, ((hB b).1 o).2⟩
    by_cases q : 792 = 792 ∧ b = a
    · rw [if_pos q]; exact ⟨0, Nat.zero_le _, rfl⟩
    · rw [if_neg q]; exact ((hB b).1 o).1
  · rw [mF_sF, if_neg (by omega)]
    exact (hB b).2 o
theorem d_inc {o : Option Nat} {v : Int32} (hn : n < 1000000) (hB : DP n M) (e : gI M 12 792 o = some v) (h : pF M 12 792 o (v + (1 : Int32)) = some M') : DP (n + 1) M' := by
  obtain ⟨a, rfl, ha, rfl⟩ := pF_some h
  obtain ⟨a', e1, -, e3⟩ := gI_some e
  have e1 := Option.some.inj e1
  subst e1
  intro b
  refine ⟨fun o => ?_, fun o => ?_⟩
  · rw [mF_sF, mF_sF, if_neg (show ¬ (770 = 792 ∧ b = a) by omega)]
    refine ⟨?_, ((hB b).1 o).2⟩
    by_cases q : 792 = 792 ∧ b = a
    · rw [if_pos q]
      obtain ⟨d, d1, d2⟩ := ((hB a).1 ha).1
      exact ⟨d + 1, by omega, by rw [e3, d2, nI_1]⟩
    · rw [if_neg q]
      obtain ⟨d, d1, d2⟩ := ((hB b).1 o).1
      exact ⟨d, by omega, d2⟩
  · rw [mF_sF, if_neg (by omega)]
    exact (hB b).2 o
theorem d_port {a0 : Nat} {o : Option Nat} {v : Int32} (hB : DP n M) (e : gI M 16 1056 (some a0) = some v) (h : pF M 12 770 o v = some M') : DP n M' := by
  obtain ⟨a, rfl, ha, rfl⟩ := pF_some h
  obtain ⟨a', -, o2, e3⟩ := gI_some e
  intro b
  refine ⟨fun o => ?_, fun o => ?_⟩
  · rw [mF_sF, mF_sF, if_neg (show ¬ (792 = 770 ∧ b = a) by omega)]
    refine ⟨((hB b).1 o).1, ?_⟩
    by_cases q : 770 = 770 ∧ b = a
    · rw [if_pos q, e3]; exact (hB a').2 o2
    · rw [if_neg q]; exact ((hB b).1 o).2
  · rw [mF_sF, if_neg (by omega)]
    exact (hB b).2 o
theorem d_half {fu q : Nat} {i v : Int32} (h : fX16_half fu q i M = some (v, M')) : ∃ p, p < 65536 ∧ v = nI p := by
  unfold fX16_half at h
  obtain ⟨_, _, h⟩ := bd h
  obtain ⟨v2, _, h⟩ := bd h
  obtain ⟨_, _, h⟩ := bd h
  obtain ⟨v4, _, h⟩ := bd h
  have e : ((v2 &&& (255 : Int32)) <<< ((8 : Int32) &&& 31)) ||| (v4 &&& (255 : Int32)) = v := congrArg Prod.fst (Option.some.inj h)
  refine ⟨256 * bN v2 ||| bN v4, ?_, ?_⟩
  · exact Nat.or_lt_two_pow (n := 16) (by have := bN_lt v2; omega) (by have := bN_lt v4; omega)
  · rw [← e, u8_nI, u8_nI, shl8_nI (bN_lt v2), nx_or]
theorem d_from {o : Option Nat} {v : Int32} (hB : DP n M) (hv : ∃ p, p < 65536 ∧ v = nI p) (h : pF M 16 1056 o v = some M') : DP n M' := by
  obtain ⟨a, rfl, ha, rfl⟩ := pF_some h
  intro b
  refine ⟨fun o => ?_, fun o => ?_⟩
  · rw [mF_sF, mF_sF, if_neg (show ¬ (792 = 1056 ∧ b = a) by omega), if_neg (show ¬ (770 = 1056 ∧ b = a) by omega)]
    exact (hB b).1 o
  · rw [mF_sF]
    by_cases q : 1056 = 1056 ∧ b = a
    · rw [if_pos q]; exact hv
    · rw [if_neg q]; exact (hB b).2 o
theorem d_pA {t : Nat} {o : Option Nat} {i v : Int32} (hB : DP n M) (h : pA M t o i v = some M') : DP n M' := by
  obtain ⟨a, rfl, ha, rfl⟩ := pA_some h
  exact hB
theorem DP_sm (hb : Bd RM TM M) (s : Sm RX M M') (h : DP n M) : DP n M' := by
  have key : ∀ a c, 12 ≤ c → c ≤ 16 → okA M' c a → okA M c a ∧ ¬ RX a := fun a c c1 c2 o => by
    by_cases q : a < sN (mS M)
    · have o' : okA M c a := ⟨o.1, q, (s.2.2.2.2.1 a q).1.symm.trans o.2.2⟩
      have r := hb.1 a c o' ⟨c1, c2⟩
      exact ⟨o', fun r' => by unfold RM at r; unfold RX at r'; omega⟩
    · exact absurd ⟨by rw [o.2.2]; exact c1, by rw [o.2.2]; exact c2⟩ (s.2.2.2.2.2.2.2 a (by omega) o.2.1)
  intro a
  refine ⟨fun o => ?_, fun o => ?_⟩
  · obtain ⟨o', r⟩ := key a 12 (by decide) (by decide) o
    rw [s.1 792 a r, s.1 770 a r]
    exact (h a).1 o'
  · obtain ⟨o', r⟩ := key a 16 (by decide) (by decide) o
    rw [s.1 1056 a r]
    exact (h a).2 o'
end Dp
