/-! ===== part 77: a packet goes out, whole ===== -/
/-- a loop that goes on step by step from i to k -/
theorem lp {β : Sort _} (F : Nat → Nat → β) {i k : Nat} (hik : i ≤ k) (hs : ∀ m j, i ≤ j → j < k → F (m + 1) j = F m (j + 1)) : ∀ m, F (m + (k - i)) i = F m k := by
  obtain ⟨d, rfl⟩ : ∃ d, k = i + d := ⟨k - i, by omega⟩
  rw [show i + d - i = d by omega]
  clear hik
  induction d with
  | zero => intro m; rfl
  | succ d ih =>
    intro m
    have := ih (fun m j h1 h2 => hs m j h1 (by omega)) (m + 1)
    rw [show m + (d + 1) = m + 1 + d by omega, this]
    exact hs m (i + d) (by omega) (by omega)
theorem lp0 {β : Sort _} (F : Nat → Nat → β) {k : Nat} (hs : ∀ m j, j < k → F (m + 1) j = F m (j + 1)) {fu : Nat} (hf : k ≤ fu) : F fu 0 = F (fu - k) k := by
  have := lp F (i := 0) (k := k) (Nat.zero_le _) (fun m j _ h => hs m j h) (fu - k)
  rw [Nat.sub_zero, show fu - k + k = fu by omega] at this
  exact this
theorem ge4 {j : Nat} (h : j < 4) : ¬ (4 : Int32) ≤ nI j := nI_ge (b := 4) h (by decide)
theorem ge8 {j : Nat} (h : j < 8) : ¬ (8 : Int32) ≤ nI j := nI_ge (b := 8) h (by decide)
theorem ge16 {j : Nat} (h : j < 16) : ¬ (16 : Int32) ≤ nI j := nI_ge (b := 16) h (by decide)
theorem ge4096 {j : Nat} (h : j < 4096) : ¬ (4096 : Int32) ≤ nI j := nI_ge (b := 4096) h (by decide)
theorem nI_0le {i : Nat} (h : i < 2 ^ 31) : (0 : Int32) ≤ nI i := Int32.not_lt.mp (nI_pos h)
section IpSend
variable {A M : Mm}
theorem m_ipOut_head (h : RW A) {fu : Nat} (hf30 : 30 ≤ fu) (to proto len : Int32) {b : Nat} (h8 : 8 ≤ b) (h30 : b ≤ 30) (hb : (mF A 1030 323) = nI b) :
    fX16_ipOut fu 323 to proto len A = fX16_ipOut_L140 fu 323 len (if ((to ^^^ (mF A 1029 323)) &&& ((-1 : Int32) <<< (nI (32 - b) &&& 31))) = 0 then to else (mF A 1031 323)) (wA (sF A 1048 323 (((mF A 1048 323) + (1 : Int32)) &&& (65535 : Int32))) 331 (ihs (mA A 331) ((20 : Int32) + len) (((mF A 1048 323) + (1 : Int32)) &&& (65535 : Int32)) proto (mF A 1029 323) to)) := by
  have hf : 5 ≤ fu := by omega
  unfold fX16_ipOut
  have hadd : ∀ (M1 : Mm), RW M1 → fX16_added fu (some 331) (14 : Int32) (20 : Int32) (0 : Int64) M1 = some (lN (sm (mA M1 331) 14 20), M1) := fun M1 h1 => m_addF h1 hf30
  have hsix : ∀ (s : Nat) (M1 : Mm), s < 2 ^ 31 → fX16_sixteen fu (lN s) M1 = some (nI (65535 - f16 (f16 s)), M1) := fun s M1 h1 => m_sixteen (by omega) h1 M1
  have hb2 := sm_le (ih (mA A 331) ((20 : Int32) + len) (((mF A 1048 323) + (1 : Int32)) &&& (65535 : Int32)) proto (mF A 1029 323) to) 14 20
  have hs2 : sm (ih (mA A 331) ((20 : Int32) + len) (((mF A 1048 323) + (1 : Int32)) &&& (65535 : Int32)) proto (mF A 1029 323) to) 14 20 < 2 ^ 31 := by omega
  simp only [gI_ok, gR_ok, pF_ok, rc_ok, ok_sF, ok_wA, rw_ok323 h, ob_some, rW_sF, rW_wA, h, (fun v M (h : RW M) => show fX16_put fu 323 (14 : Int32) 2 v M = some (wA M 331 (up2 (mA M 331) 14 v)) from m_put2 h hf (i := 14) (by decide) v), (fun v M (h : RW M) => show fX16_put fu 323 (16 : Int32) 2 v M = some (wA M 331 (up2 (mA M 331) 16 v)) from m_put2 h hf (i := 16) (by decide) v), (fun v M (h : RW M) => show fX16_put fu 323 (18 : Int32) 2 v M = some (wA M 331 (up2 (mA M 331) 18 v)) from m_put2 h hf (i := 18) (by decide) v), (fun v M (h : RW M) => show fX16_put fu 323 (20 : Int32) 2 v M = some (wA M 331 (up2 (mA M 331) 20 v)) from m_put2 h hf (i := 20) (by decide) v), (fun v M (h : RW M) => show fX16_put fu 323 (22 : Int32) 2 v M = some (wA M 331 (up2 (mA M 331) 22 v)) from m_put2 h hf (i := 22) (by decide) v), (fun v M (h : RW M) => show fX16_put fu 323 (24 : Int32) 2 v M = some (wA M 331 (up2 (mA M 331) 24 v)) from m_put2 h hf (i := 24) (by decide) v), (fun v M (h : RW M) => show fX16_put fu 323 (26 : Int32) 4 v M = some (wA M 331 (up4 (mA M 331) 26 v)) from m_put4 h hf (i := 26) (by decide) v), (fun v M (h : RW M) => show fX16_put fu 323 (30 : Int32) 4 v M = some (wA M 331 (up4 (mA M 331) 30 v)) from m_put4 h hf (i := 30) (by decide) v), mF_wA, mG_wA, mG_sF, rw_g1043_323 h, mA_sF, mA_wA_self, wA_wA, mF_sF, reduceIte, Nat.reduceEqDiff, Nat.reduceAdd, Nat.reduceMul, Nat.reduceLT, Nat.reduceLeDiff, and_true, true_and, and_false, false_and, and_self, ne_eq, not_true_eq_false, not_false_eq_true, Option.some.injEq, reduceCtorEq]
  rw [hadd (wA (sF A 1048 323 _) 331 _) h, b2_some, mA_wA_self]
  have hs3 := hsix _ (wA (sF A 1048 323 (((mF A 1048 323) + (1 : Int32)) &&& (65535 : Int32))) 331 (ih (mA A 331) ((20 : Int32) + len) (((mF A 1048 323) + (1 : Int32)) &&& (65535 : Int32)) proto (mF A 1029 323) to)) hs2
  unfold ih at hs3
  rw [hs3, b2_some]
  simp only [gI_ok, gR_ok, pF_ok, rc_ok, ok_sF, ok_wA, rw_ok323 h, ob_some, rW_sF, rW_wA, h, (fun v M (h : RW M) => show fX16_put fu 323 (24 : Int32) 2 v M = some (wA M 331 (up2 (mA M 331) 24 v)) from m_put2 h hf (i := 24) (by decide) v), mF_wA, mA_wA_self, wA_wA, mF_sF, reduceIte, Nat.reduceEqDiff, Nat.reduceAdd, Nat.reduceMul, Nat.reduceLT, Nat.reduceLeDiff, and_true, true_and, and_false, false_and, and_self, ne_eq, not_true_eq_false, not_false_eq_true, Option.some.injEq, reduceCtorEq]
  unfold fX16_net
  simp only [gI_ok, rc_ok, ok_sF, ok_wA, rw_ok323 h, ob_some, b2_some, mF_wA, mF_sF, hb, reduceIte, Nat.reduceEqDiff, Nat.reduceAdd, Nat.reduceMul, Nat.reduceLT, Nat.reduceLeDiff, and_true, true_and, and_false, false_and, and_self, ne_eq, not_true_eq_false, not_false_eq_true, Option.some.injEq, reduceCtorEq, net_same h8 h30]
  unfold ihs ih
  by_cases c : ((to ^^^ (mF A 1029 323)) &&& ((-1 : Int32) <<< (nI (32 - b) &&& 31))) = 0
  · rw [if_pos c, if_pos c]
  · rw [if_neg c, if_neg c]
theorem id_next {i : Nat} (h : i < 65536) : (nI i + (1 : Int32)) &&& (65535 : Int32) = nI ((i + 1) % 65536) := by
  rw [nI_1]
  exact pk_andN (n := i + 1) (by omega) 16 (by decide)
theorem sp_ipOut (fu : Nat) (hf : 2000 ≤ fu) {KN KS t T len : Nat} (hJ : JL0 KN KS t T A M) (hBA : By A) (hT2 : T < 2 ^ 30) (h8 : 8 ≤ len) (h1480 : len ≤ 1480) (hfr : ∀ j, 34 ≤ j → j < 34 + len → mA A 331 j = mA M 308 j) (to proto : Int32) :
    ∃ A' M' T', fX16_ipOut fu 323 to proto (nI len) A = some A' ∧ fX4_send fu 307 to proto (nI len) M = some M' ∧ T ≤ T' ∧ T' ≤ T + 1 ∧ JL0 KN KS t T' A' M' ∧ FrA A A' ∧ FrM M M' := by
  have hJ0 := hJ
  obtain ⟨hR, hW, hS, hX, hP, hQ, hE, hJW⟩ := hJ
  obtain ⟨p1, p2, p3, p4, p5, p6, p7, ⟨b, b8, b30, b1, b2⟩, ⟨i, i1, i2, i3⟩⟩ := hP
  rw [m_ipOut_head hR (by omega) to proto (nI len) b8 b30 b1]
  have e0 : ¬ nI len < 0 := nI_pos (by omega)
  have e1 : nI len ≤ (1480 : Int32) := nI_le (b := 1480) h1480 (by decide)
  unfold fX4_send
  rw [if_neg e0, if_pos e1, rc_ok (xw_ok307 hW), ob_some, x_fillHeader hW (by omega), ob_some]
  simp only [gI_ok, ok_sF, ok_wA, xw_ok307 hW, ob_some, mF_sF, mF_wA, reduceIte, Nat.reduceEqDiff, Nat.reduceAdd, Nat.reduceMul, Nat.reduceLT, Nat.reduceLeDiff, and_true, true_and, and_false, false_and, and_self, ne_eq, not_true_eq_false, not_false_eq_true, Option.some.injEq, reduceCtorEq]
  have eid := id_next i1
  have eid2 := id_next (i := (i + 1) % 65536) (by omega)
  have hJ1 : JL0 KN KS t T (wA (sF A 1048 323 (((mF A 1048 323) + (1 : Int32)) &&& (65535 : Int32))) 331 (ihs (mA A 331) ((20 : Int32) + nI len) (((mF A 1048 323) + (1 : Int32)) &&& (65535 : Int32)) proto (mF A 1029 323) to)) (sF (wA M 308 (ihs (mA M 308) ((20 : Int32) + nI len) (mF M 264 307) proto (mF M 257 307) to)) 264 307 (((mF M 264 307) + (1 : Int32)) &&& (65535 : Int32))) := by
    have hJ2 := JL0_fr (ihs (mA A 331) ((20 : Int32) + nI len) (((mF A 1048 323) + (1 : Int32)) &&& (65535 : Int32)) proto (mF A 1029 323) to) (JL0_out (ihs (mA M 308) ((20 : Int32) + nI len) (mF M 264 307) proto (mF M 257 307) to) hJ0)
    obtain ⟨y1, y2, y3, y4, y5, y6, y7, y8⟩ := hJ2
    obtain ⟨p1, p2, p3, p4, p5, p6, p7, p8, p9⟩ := y5
    refine ⟨y1, y2, y3, y4, ⟨p1, p2, p3, p4, p5, p6, p7, p8, (i + 1) % 65536, by omega, ?_, ?_⟩, y6, y7, y8⟩
    · simp only [mF_wA, mF_sF, reduceIte, Nat.reduceEqDiff, Nat.reduceAdd, Nat.reduceMul, Nat.reduceLT, Nat.reduceLeDiff, and_true, true_and, and_false, false_and, and_self, ne_eq, not_true_eq_false, not_false_eq_true, Option.some.injEq, reduceCtorEq]
      rw [i2, eid]
    · simp only [mF_wA, mF_sF, reduceIte, Nat.reduceEqDiff, Nat.reduceAdd, Nat.reduceMul, Nat.reduceLT, Nat.reduceLeDiff, and_true, true_and, and_false, false_and, and_self, ne_eq, not_true_eq_false, not_false_eq_true, Option.some.injEq, reduceCtorEq]
      rw [i3, eid2]
  have hBA1 : By (wA (sF A 1048 323 (((mF A 1048 323) + (1 : Int32)) &&& (65535 : Int32))) 331 (ihs (mA A 331) ((20 : Int32) + nI len) (((mF A 1048 323) + (1 : Int32)) &&& (65535 : Int32)) proto (mF A 1029 323) to)) := By_wA (By_sF hBA) (fun _ => isB_ihs (fun j => hBA 331 j (rw_ok331 hR).2.2) _ _ _ _ _)
  have eids : ((mF A 1048 323) + (1 : Int32)) &&& (65535 : Int32) = (mF M 264 307) := by rw [i2, i3, eid]
  have key := fun hop => sp_hop fu hf (len := len) hJ1 hBA1 hT2 h8 h1480 (fun j h1 h2 => by
    simp only [mA_sF, mA_wA_self]
    rw [eids, p1]
    exact ihs_c (fun q => hfr j (by omega) h2)) hop
  have fA1 : FrA A (wA (sF A 1048 323 (((mF A 1048 323) + (1 : Int32)) &&& (65535 : Int32))) 331 (ihs (mA A 331) ((20 : Int32) + nI len) (((mF A 1048 323) + (1 : Int32)) &&& (65535 : Int32)) proto (mF A 1029 323) to)) := ⟨rfl, rfl, rfl, fun f a h => by simp only [mF_wA, mF_sF]; rw [if_neg (by omega)], fun f a h1 h2 h3 h4 => by simp only [mF_wA, mF_sF]; rw [if_neg (by omega)], fun a h1 h2 => mA_wA_ne (by omega), by simp only [mF_wA, mF_sF, reduceIte, Nat.reduceEqDiff, Nat.reduceAdd, Nat.reduceMul, Nat.reduceLT, Nat.reduceLeDiff, and_true, true_and, and_false, false_and, and_self, ne_eq, not_true_eq_false, not_false_eq_true, Option.some.injEq, reduceCtorEq]; exact Int32.le_refl _⟩
  have fM1 : FrM M (sF (wA M 308 (ihs (mA M 308) ((20 : Int32) + nI len) (mF M 264 307) proto (mF M 257 307) to)) 264 307 (((mF M 264 307) + (1 : Int32)) &&& (65535 : Int32))) := ⟨Nat.le_refl _, fun _ _ => ⟨rfl, rfl⟩, fun _ _ _ => rfl, fun _ _ _ _ => rfl, fun f a h1 h2 h3 h4 => by simp only [mF_wA, mF_sF]; rw [if_neg (by omega)], fun a h1 h2 h3 h4 => mA_wA_ne h2⟩
  rw [b2, p1]
  by_cases c : ((to ^^^ (mF M 257 307)) &&& ((-1 : Int32) <<< (nI (32 - b) &&& 31))) = 0
  · rw [if_pos c, if_pos c, ← p1]
    obtain ⟨A', M', T', z1, z2, z3, z4, z5, z6, z7⟩ := key to
    exact ⟨A', M', T', z1, by rw [← p1] at z2; exact z2, z3, z4, z5, fA1.tr z6, fM1.tr z7⟩
  · rw [if_neg c, if_neg c, ← p1, p2]
    obtain ⟨A', M', T', z1, z2, z3, z4, z5, z6, z7⟩ := key (mF M 263 307)
    exact ⟨A', M', T', z1, by rw [← p1] at z2; exact z2, z3, z4, z5, fA1.tr z6, fM1.tr z7⟩
end IpSend
