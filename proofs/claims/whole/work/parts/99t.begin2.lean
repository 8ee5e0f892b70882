/-! ===== part 99t: a connection begins: what is written, in the class ===== -/
section Begin2
variable {A M N : Mm}
def bxC (N : Mm) (c : Nat) (sn fp sq iss wi : Int32) : Mm := (sF (sF (sF (sF (sF (sF (sF (sF (sF (sF (sF (sF (sF (sF (sF N 64 c 1) 65 c sn) 66 c fp) 67 c iss) 68 c iss) 69 c (iss + 1)) 70 c (iss + 1)) 71 c wi) 82 c sq) 83 c 0) 77 c (iss + 1)) 78 c 0) 75 c 0) 76 c 0) 74 c 0)
def bxR (N : Mm) (c : Nat) (r : Int32) : Mm := wA (sF (sF (sF (sF (sF (sF (sF N 0 (c + 2) r) 1 (c + 2) r) 2 (c + 2) 4096) 3 (c + 2) 0) 4 (c + 2) 0) 7 (c + 2) 0) 8 (c + 2) 0) (c + 4) (fun j => if j < 128 then 0 else mA N (c + 4) j)
def bxP (N : Mm) (c : Nat) (iss now ms cw : Int32) : Mm := (sF (sF (sF (sF (sF (sF (sF (sF (sF (sF (sF (sF (sF (sF (sF (sF N 320 (c + 5) ms) 321 (c + 5) cw) 322 (c + 5) 65535) 323 (c + 5) 1000) 324 (c + 5) 2147483647) 325 (c + 5) 0) 326 (c + 5) 0) 327 (c + 5) 0) 328 (c + 5) 0) 331 (c + 5) 0) 332 (c + 5) 0) 333 (c + 5) 0) 328 (c + 5) 1) 329 (c + 5) iss) 330 (c + 5) now) 324 (c + 5) (now + 1000))
theorem bxC_ff (N : Mm) (c : Nat) (sn fp sq iss wi : Int32) : FF (fun f => 64 ≤ f ∧ f < 128) c N (bxC N c sn fp sq iss wi) := by
  unfold bxC
  exact (((((((((((((((FF.s _ (by omega)).tr (FF.s _ (by omega))).tr (FF.s _ (by omega))).tr (FF.s _ (by omega))).tr (FF.s _ (by omega))).tr (FF.s _ (by omega))).tr (FF.s _ (by omega))).tr (FF.s _ (by omega))).tr (FF.s _ (by omega))).tr (FF.s _ (by omega))).tr (FF.s _ (by omega))).tr (FF.s _ (by omega))).tr (FF.s _ (by omega))).tr (FF.s _ (by omega))).tr (FF.s _ (by omega)))
theorem bxP_ff (N : Mm) (c : Nat) (iss now ms cw : Int32) : FF (fun f => 320 ≤ f ∧ f < 384) (c + 5) N (bxP N c iss now ms cw) := by
  unfold bxP
  exact ((((((((((((((((FF.s _ (by omega)).tr (FF.s _ (by omega))).tr (FF.s _ (by omega))).tr (FF.s _ (by omega))).tr (FF.s _ (by omega))).tr (FF.s _ (by omega))).tr (FF.s _ (by omega))).tr (FF.s _ (by omega))).tr (FF.s _ (by omega))).tr (FF.s _ (by omega))).tr (FF.s _ (by omega))).tr (FF.s _ (by omega))).tr (FF.s _ (by omega))).tr (FF.s _ (by omega))).tr (FF.s _ (by omega))).tr (FF.s _ (by omega)))
theorem bxC_v (N : Mm) (c : Nat) (sn fp sq iss wi : Int32) : mF (bxC N c sn fp sq iss wi) 64 c = 1 ∧ mF (bxC N c sn fp sq iss wi) 65 c = sn ∧ mF (bxC N c sn fp sq iss wi) 66 c = fp ∧ mF (bxC N c sn fp sq iss wi) 67 c = iss ∧ mF (bxC N c sn fp sq iss wi) 68 c = iss ∧ mF (bxC N c sn fp sq iss wi) 69 c = (iss + 1) ∧ mF (bxC N c sn fp sq iss wi) 70 c = (iss + 1) ∧ mF (bxC N c sn fp sq iss wi) 71 c = wi ∧ mF (bxC N c sn fp sq iss wi) 74 c = 0 ∧ mF (bxC N c sn fp sq iss wi) 75 c = 0 ∧ mF (bxC N c sn fp sq iss wi) 76 c = 0 ∧ mF (bxC N c sn fp sq iss wi) 77 c = (iss + 1) ∧ mF (bxC N c sn fp sq iss wi) 78 c = 0 ∧ mF (bxC N c sn fp sq iss wi) 82 c = sq ∧ mF (bxC N c sn fp sq iss wi) 83 c = 0 := by
  unfold bxC
  refine ⟨?_, ?_, ?_, ?_, ?_, ?_, ?_, ?_, ?_, ?_, ?_, ?_, ?_, ?_, ?_⟩ <;> simp only [mF_sF, reduceIte, Nat.reduceEqDiff, Nat.reduceAdd, Nat.reduceMul, Nat.reduceLT, Nat.reduceLeDiff, and_true, true_and, and_false, false_and, and_self, ne_eq, not_true_eq_false, not_false_eq_true, Option.some.injEq, reduceCtorEq]
theorem bxR_v (N : Mm) (c : Nat) (r : Int32) : mF (bxR N c r) 0 (c + 2) = r ∧ mF (bxR N c r) 1 (c + 2) = r ∧ mF (bxR N c r) 2 (c + 2) = 4096 ∧ mF (bxR N c r) 3 (c + 2) = 0 ∧ mF (bxR N c r) 4 (c + 2) = 0 ∧ mF (bxR N c r) 7 (c + 2) = 0 ∧ mF (bxR N c r) 8 (c + 2) = 0 := by
  unfold bxR
  rw [mF_wA]
  refine ⟨?_, ?_, ?_, ?_, ?_, ?_, ?_⟩ <;> simp only [mF_sF, reduceIte, Nat.reduceEqDiff, Nat.reduceAdd, Nat.reduceMul, Nat.reduceLT, Nat.reduceLeDiff, and_true, true_and, and_false, false_and, and_self, ne_eq, not_true_eq_false, not_false_eq_true, Option.some.injEq, reduceCtorEq]
theorem bxP_v (N : Mm) (c : Nat) (iss now ms cw : Int32) : mF (bxP N c iss now ms cw) 320 (c + 5) = ms ∧ mF (bxP N c iss now ms cw) 321 (c + 5) = cw ∧ mF (bxP N c iss now ms cw) 322 (c + 5) = 65535 ∧ mF (bxP N c iss now ms cw) 323 (c + 5) = 1000 ∧ mF (bxP N c iss now ms cw) 324 (c + 5) = (now + 1000) ∧ mF (bxP N c iss now ms cw) 325 (c + 5) = 0 ∧ mF (bxP N c iss now ms cw) 326 (c + 5) = 0 ∧ mF (bxP N c iss now ms cw) 327 (c + 5) = 0 ∧ mF (bxP N c iss now ms cw) 328 (c + 5) = 1 ∧ mF (bxP N c iss now ms cw) 329 (c + 5) = iss ∧ mF (bxP N c iss now ms cw) 330 (c + 5) = now ∧ mF (bxP N c iss now ms cw) 331 (c + 5) = 0 ∧ mF (bxP N c iss now ms cw) 332 (c + 5) = 0 ∧ mF (bxP N c iss now ms cw) 333 (c + 5) = 0 := by
  unfold bxP
  refine ⟨?_, ?_, ?_, ?_, ?_, ?_, ?_, ?_, ?_, ?_, ?_, ?_, ?_, ?_⟩ <;> simp only [mF_sF, reduceIte, Nat.reduceEqDiff, Nat.reduceAdd, Nat.reduceMul, Nat.reduceLT, Nat.reduceLeDiff, and_true, true_and, and_false, false_and, and_self, ne_eq, not_true_eq_false, not_false_eq_true, Option.some.injEq, reduceCtorEq]
theorem bxR_o {c f a : Nat} {r : Int32} (h : ¬ (f < 10 ∧ a = c + 2)) : mF (bxR N c r) f a = mF N f a := by
  unfold bxR
  simp only [mF_wA, mF_sF]
  rw [if_neg (by omega), if_neg (by omega), if_neg (by omega), if_neg (by omega), if_neg (by omega), if_neg (by omega), if_neg (by omega)]
theorem bxR_c {c : Nat} {r : Int32} : mS (bxR N c r) = mS N ∧ mG (bxR N c r) = mG N ∧ mB (bxR N c r) = mB N ∧ (∀ a, a ≠ c + 4 → mA (bxR N c r) a = mA N a) ∧ mA (bxR N c r) (c + 4) = (fun j => if j < 128 then 0 else mA N (c + 4) j) := by
  unfold bxR
  refine ⟨rfl, rfl, rfl, fun a h => ?_, ?_⟩
  · rw [mA_wA_ne h]; rfl
  · rw [mA_wA_self]
theorem x_cbegin (fu : Nat) (hfu : 5000 ≤ fu) {c : Nat} (hC : CnO N c) (r : Int32) : fX0_begin fu (c + 2) r N = some (bxR N c r) := by
  obtain ⟨c1, c2, c3, c4, c5, c6, c7, c8, c9, c10, c11, c12, c13, c14⟩ := hC
  have z0 : ∀ (Y : Mm) f, okA Y 0 (c + 2) → pZ Y 0 f (some (c + 2)) (0 : Int32) = some (sF Y f (c + 2) 0) := fun Y f h => pZ_ok h (Or.inl rfl)
  unfold fX0_begin
  simp only [pF_ok, z0, gR_ok, ok_sF, c7, ob_some, mG_sF, c9]
  rw [x_fill (M := (sF (sF (sF (sF (sF (sF (sF N 0 (c + 2) r) 1 (c + 2) r) 2 (c + 2) 4096) 3 (c + 2) 0) 4 (c + 2) 0) 7 (c + 2) 0) 8 (c + 2) 0)) fu (a := c + 4) (L := 128) c12 c13 (by decide) (by omega) 0, ob_some]
  rfl
theorem x_pbegin (fu : Nat) {c ms : Nat} (hC : CnO N c) (hms : ms ≤ 1460) (iss now : Int32) : ∃ N1, fX5_begin fu (c + 5) (nI ms) N = some N1 ∧ (fX5_startTiming fu (c + 5) iss now N1).bind (fun M18 => pF M18 5 324 (some (c + 5)) (now + 1000)) = some (bxP N c iss now (nI ms) (nI (if 1095 < ms then 3 * ms else 4 * ms))) ∧ (∀ M18, fX5_startTiming fu (c + 5) iss now N1 = some M18 → mF M18 323 (c + 5) = 1000 ∧ mS M18 = mS N ∧ mG M18 = mG N ∧ (∀ f a, a ≠ c + 5 → mF M18 f a = mF N f a)) ∧ mS N1 = mS N ∧ mG N1 = mG N ∧ (∀ f a, a ≠ c + 5 → mF N1 f a = mF N f a) := by
  obtain ⟨c1, c2, c3, c4, c5, c6, c7, c8, c9, c10, c11, c12, c13, c14⟩ := hC
  have z0 : ∀ (Y : Mm) f, okA Y 5 (c + 5) → pZ Y 5 f (some (c + 5)) (0 : Int32) = some (sF Y f (c + 5) 0) := fun Y f h => pZ_ok h (Or.inl rfl)
  have z1 : ∀ (Y : Mm) f, okA Y 5 (c + 5) → pZ Y 5 f (some (c + 5)) (1 : Int32) = some (sF Y f (c + 5) 1) := fun Y f h => pZ_ok h (Or.inr rfl)
  have key : ∀ cw : Int32, ∃ N1, fX5_begin_L22 fu (c + 5) (some (c + 5)) cw (sF N 320 (c + 5) (nI ms)) = some N1 ∧ (fX5_startTiming fu (c + 5) iss now N1).bind (fun M18 => pF M18 5 324 (some (c + 5)) (now + 1000)) = some (bxP N c iss now (nI ms) cw) ∧ (∀ M18, fX5_startTiming fu (c + 5) iss now N1 = some M18 → mF M18 323 (c + 5) = 1000 ∧ mS M18 = mS N ∧ mG M18 = mG N ∧ (∀ f a, a ≠ c + 5 → mF M18 f a = mF N f a)) ∧ mS N1 = mS N ∧ mG N1 = mG N ∧ (∀ f a, a ≠ c + 5 → mF N1 f a = mF N f a) := fun cw => by
    have b1 : fX5_begin_L22 fu (c + 5) (some (c + 5)) cw (sF N 320 (c + 5) (nI ms)) = some (sF (sF (sF (sF (sF (sF (sF (sF (sF (sF (sF (sF N 320 (c + 5) (nI ms)) 321 (c + 5) cw) 322 (c + 5) 65535) 323 (c + 5) 1000) 324 (c + 5) 2147483647) 325 (c + 5) 0) 326 (c + 5) 0) 327 (c + 5) 0) 328 (c + 5) 0) 331 (c + 5) 0) 332 (c + 5) 0) 333 (c + 5) 0) := by
      unfold fX5_begin_L22
      simp only [pF_ok, z0, ok_sF, c14, ob_some]
    have s1 : fX5_startTiming fu (c + 5) iss now (sF (sF (sF (sF (sF (sF (sF (sF (sF (sF (sF (sF N 320 (c + 5) (nI ms)) 321 (c + 5) cw) 322 (c + 5) 65535) 323 (c + 5) 1000) 324 (c + 5) 2147483647) 325 (c + 5) 0) 326 (c + 5) 0) 327 (c + 5) 0) 328 (c + 5) 0) 331 (c + 5) 0) 332 (c + 5) 0) 333 (c + 5) 0) = some (sF (sF (sF (sF (sF (sF (sF (sF (sF (sF (sF (sF (sF (sF (sF N 320 (c + 5) (nI ms)) 321 (c + 5) cw) 322 (c + 5) 65535) 323 (c + 5) 1000) 324 (c + 5) 2147483647) 325 (c + 5) 0) 326 (c + 5) 0) 327 (c + 5) 0) 328 (c + 5) 0) 331 (c + 5) 0) 332 (c + 5) 0) 333 (c + 5) 0) 328 (c + 5) 1) 329 (c + 5) iss) 330 (c + 5) now) := by
      unfold fX5_startTiming
      simp only [pF_ok, gI_ok, z1, ok_sF, c14, ob_some, mF_sF, reduceIte, Nat.reduceEqDiff, Nat.reduceAdd, Nat.reduceMul, Nat.reduceLT, Nat.reduceLeDiff, and_true, true_and, and_false, false_and, and_self, ne_eq, not_true_eq_false, not_false_eq_true, Option.some.injEq, reduceCtorEq]
    refine ⟨_, b1, ?_, fun M18 e => ?_, rfl, rfl, fun f a h => ?_⟩
    · rw [s1, ob_some, pF_ok (by simp only [ok_sF]; exact c14)]
      rfl
    · rw [s1] at e
      have e := Option.some.inj e
      subst e
      refine ⟨by simp only [mF_sF, reduceIte, Nat.reduceEqDiff, Nat.reduceAdd, Nat.reduceMul, Nat.reduceLT, Nat.reduceLeDiff, and_true, true_and, and_false, false_and, and_self, ne_eq, not_true_eq_false, not_false_eq_true, Option.some.injEq, reduceCtorEq], rfl, rfl, fun f a h => ?_⟩
      simp only [mF_sF]
      rw [if_neg (fun e => h e.2), if_neg (fun e => h e.2), if_neg (fun e => h e.2), if_neg (fun e => h e.2), if_neg (fun e => h e.2), if_neg (fun e => h e.2), if_neg (fun e => h e.2), if_neg (fun e => h e.2), if_neg (fun e => h e.2), if_neg (fun e => h e.2), if_neg (fun e => h e.2), if_neg (fun e => h e.2), if_neg (fun e => h e.2), if_neg (fun e => h e.2), if_neg (fun e => h e.2)]
    · simp only [mF_sF]
      rw [if_neg (fun e => h e.2), if_neg (fun e => h e.2), if_neg (fun e => h e.2), if_neg (fun e => h e.2), if_neg (fun e => h e.2), if_neg (fun e => h e.2), if_neg (fun e => h e.2), if_neg (fun e => h e.2), if_neg (fun e => h e.2), if_neg (fun e => h e.2), if_neg (fun e => h e.2), if_neg (fun e => h e.2)]
  have e3' : (3 : Int32) * nI ms = nI (3 * ms) := pk_mul 3 ms
  have e4' : (4 : Int32) * nI ms = nI (4 * ms) := pk_mul 4 ms
  unfold fX5_begin
  rw [pF_ok c14, ob_some]
  by_cases q : 1095 < ms
  · rw [if_pos (show (1095 : Int32) < nI ms from nI_lt (a := 1095) q (by omega)), e3', if_pos q]
    exact key _
  · rw [if_neg (show ¬ (1095 : Int32) < nI ms from nI_nlt (a := 1095) (by omega) (by decide)), e4', if_neg q]
    exact key _

end Begin2
