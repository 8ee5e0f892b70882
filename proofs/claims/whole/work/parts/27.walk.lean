/-! ===== walks of methods, printed by a program of ours ===== -/
/-! java/lang/StringLatin1.indexOf([BIII)I -/
def fJ1_indexOf_4cfef (fu : Nat)  (a0 : Option Nat) (a1 : Int32) (a2 : Int32) (a3 : Int32)  (M : Mm) : Option (Int32 × Mm) :=
    b2 (fJ1_canEncode_9a6ad fu  a1 M) fun v2 M1 =>
    if v2 = 0 then (
    some ((-1 : Int32), M1))
    else (
    (aLS a0).bind fun v3 =>
    if (jmax a2 (0 : Int32)) < (jmin a3 v3) then (
    b2 (fJ1_indexOfChar_4cfef fu  a0 a1 (jmax a2 (0 : Int32)) (jmin a3 v3) M1) fun v5 M4 =>
    some (v5, M4))
    else (
    some ((-1 : Int32), M1)))
theorem dJ1_indexOf_4cfef_0 : decode cJ1_indexOf_4cfef 0 = .ok (.iload_n 1, 1) := by decide +kernel
theorem dJ1_indexOf_4cfef_1 : decode cJ1_indexOf_4cfef 1 = .ok (.invokestatic 88, 3) := by decide +kernel
theorem dJ1_indexOf_4cfef_4 : decode cJ1_indexOf_4cfef 4 = .ok (.ifCond .ne 5, 3) := by decide +kernel
theorem dJ1_indexOf_4cfef_7 : decode cJ1_indexOf_4cfef 7 = .ok (.iconst (-1), 1) := by decide +kernel
theorem dJ1_indexOf_4cfef_8 : decode cJ1_indexOf_4cfef 8 = .ok (.ireturn, 1) := by decide +kernel
theorem dJ1_indexOf_4cfef_9 : decode cJ1_indexOf_4cfef 9 = .ok (.iload_n 2, 1) := by decide +kernel
theorem dJ1_indexOf_4cfef_10 : decode cJ1_indexOf_4cfef 10 = .ok (.iconst 0, 1) := by decide +kernel
theorem dJ1_indexOf_4cfef_11 : decode cJ1_indexOf_4cfef 11 = .ok (.invokestatic 92, 3) := by decide +kernel
theorem dJ1_indexOf_4cfef_14 : decode cJ1_indexOf_4cfef 14 = .ok (.istore_n 2, 1) := by decide +kernel
theorem dJ1_indexOf_4cfef_15 : decode cJ1_indexOf_4cfef 15 = .ok (.iload_n 3, 1) := by decide +kernel
theorem dJ1_indexOf_4cfef_16 : decode cJ1_indexOf_4cfef 16 = .ok (.aload_n 0, 1) := by decide +kernel
theorem dJ1_indexOf_4cfef_17 : decode cJ1_indexOf_4cfef 17 = .ok (.arraylength, 1) := by decide +kernel
theorem dJ1_indexOf_4cfef_18 : decode cJ1_indexOf_4cfef 18 = .ok (.invokestatic 38, 3) := by decide +kernel
theorem dJ1_indexOf_4cfef_21 : decode cJ1_indexOf_4cfef 21 = .ok (.istore_n 3, 1) := by decide +kernel
theorem dJ1_indexOf_4cfef_22 : decode cJ1_indexOf_4cfef 22 = .ok (.iload_n 2, 1) := by decide +kernel
theorem dJ1_indexOf_4cfef_23 : decode cJ1_indexOf_4cfef 23 = .ok (.iload_n 3, 1) := by decide +kernel
theorem dJ1_indexOf_4cfef_24 : decode cJ1_indexOf_4cfef 24 = .ok (.if_icmp .lt 5, 3) := by decide +kernel
theorem dJ1_indexOf_4cfef_27 : decode cJ1_indexOf_4cfef 27 = .ok (.iconst (-1), 1) := by decide +kernel
theorem dJ1_indexOf_4cfef_28 : decode cJ1_indexOf_4cfef 28 = .ok (.ireturn, 1) := by decide +kernel
theorem dJ1_indexOf_4cfef_29 : decode cJ1_indexOf_4cfef 29 = .ok (.aload_n 0, 1) := by decide +kernel
theorem dJ1_indexOf_4cfef_30 : decode cJ1_indexOf_4cfef 30 = .ok (.iload_n 1, 1) := by decide +kernel
theorem dJ1_indexOf_4cfef_31 : decode cJ1_indexOf_4cfef 31 = .ok (.iload_n 2, 1) := by decide +kernel
theorem dJ1_indexOf_4cfef_32 : decode cJ1_indexOf_4cfef 32 = .ok (.iload_n 3, 1) := by decide +kernel
theorem dJ1_indexOf_4cfef_33 : decode cJ1_indexOf_4cfef 33 = .ok (.invokestatic 95, 3) := by decide +kernel
theorem dJ1_indexOf_4cfef_36 : decode cJ1_indexOf_4cfef 36 = .ok (.ireturn, 1) := by decide +kernel
theorem wJ1_indexOf_4cfef {x : GX} {n0 sl0 : Nat} (X : Cx x cJ1_indexOf_4cfef RJ1 (some .int) n0 sl0 1 25) {out : Int32 × Mm} (hE : Ends x n0 sl0 (some (pI out.1)) out.2) (hn : xn x = 4) (fu : Nat)   (a0 : Option Nat) (a1 : Int32) (a2 : Int32) (a3 : Int32)  (M : Mm) (h : fJ1_indexOf_4cfef fu  a0 a1 a2 a3 M = some out) : Gw x M 0 [(0, pR a0), (1, pI a1), (2, pI a2), (3, pI a3)] [] := by
  unfold fJ1_indexOf_4cfef at h
  refine g_iload_n X (pc := 0) 1 rfl rfl dJ1_indexOf_4cfef_0 ?_
  obtain ⟨v2, M1, eM1, h⟩ := b2d h
  refine g_callS X (pc := 1) (M' := M1) (ro := some (pI v2)) (as := [pI a1]) (as' := [pI a1]) (st := []) (ctJ1_canEncode_9a6ad _ _ _ _ _ _ fu  a1 M _ eM1) tb_1284 tb_1282 tb_1283 tb_22 hyJ1_canEncode_9a6ad rfl rfl ⟨by decide, by decide⟩ (Nat.le_of_ble_eq_true rfl) dJ1_indexOf_4cfef_1 ?_
  refine g_if_ne X (pc := 4) (tgt := 9) dJ1_indexOf_4cfef_4 (by decide) (fun hc => ?_) (fun hc => ?_)
  · have h := (if_neg hc).symm.trans h
    refine g_iload_n X (pc := 9) 2 rfl rfl dJ1_indexOf_4cfef_9 ?_
    refine g_iconst X (pc := 10) (v := 0) dJ1_indexOf_4cfef_10 (by decide) ?_
    refine g_mmax X (pc := 11) tb_1285 tb_405 tb_13 tb_406 ⟨by decide, Nat.le_of_ble_eq_true rfl⟩ dJ1_indexOf_4cfef_11 ?_
    refine g_istore_n X (pc := 14) [(2, pI (jmax a2 (0 : Int32))), (0, pR a0), (1, pI a1), (3, pI a3)] rfl (lt_n hn (by decide)) rfl dJ1_indexOf_4cfef_14 ?_
    refine g_iload_n X (pc := 15) 3 rfl rfl dJ1_indexOf_4cfef_15 ?_
    refine g_aload_n X (pc := 16) 1 rfl rfl dJ1_indexOf_4cfef_16 ?_
    obtain ⟨v3, ev3, h⟩ := bd h
    refine g_alenS X (pc := 17) ev3 dJ1_indexOf_4cfef_17 ?_
    refine g_mmin X (pc := 18) tb_1286 tb_348 tb_13 tb_349 ⟨by decide, Nat.le_of_ble_eq_true rfl⟩ dJ1_indexOf_4cfef_18 ?_
    refine g_istore_n X (pc := 21) [(3, pI (jmin a3 v3)), (2, pI (jmax a2 (0 : Int32))), (0, pR a0), (1, pI a1)] rfl (lt_n hn (by decide)) rfl dJ1_indexOf_4cfef_21 ?_
    refine g_iload_n X (pc := 22) 1 rfl rfl dJ1_indexOf_4cfef_22 ?_
    refine g_iload_n X (pc := 23) 0 rfl rfl dJ1_indexOf_4cfef_23 ?_
    refine g_icmp_lt X (pc := 24) (tgt := 29) dJ1_indexOf_4cfef_24 (by decide) (fun hc => ?_) (fun hc => ?_)
    · have h := (if_pos hc).symm.trans h
      refine g_aload_n X (pc := 29) 2 rfl rfl dJ1_indexOf_4cfef_29 ?_
      refine g_iload_n X (pc := 30) 3 rfl rfl dJ1_indexOf_4cfef_30 ?_
      refine g_iload_n X (pc := 31) 1 rfl rfl dJ1_indexOf_4cfef_31 ?_
      refine g_iload_n X (pc := 32) 0 rfl rfl dJ1_indexOf_4cfef_32 ?_
      obtain ⟨v5, M4, eM4, h⟩ := b2d h
      refine g_callS X (pc := 33) (M' := M4) (ro := some (pI v5)) (as := [pR a0, pI a1, pI (jmax a2 (0 : Int32)), pI (jmin a3 v3)]) (as' := [pI (jmin a3 v3), pI (jmax a2 (0 : Int32)), pI a1, pR a0]) (st := []) (ctJ1_indexOfChar_4cfef _ _ _ _ _ _ fu  a0 a1 (jmax a2 (0 : Int32)) (jmin a3 v3) M1 _ eM4) tb_1289 tb_1287 tb_1288 tb_22 hyJ1_indexOfChar_4cfef rfl rfl ⟨by decide, by decide⟩ (Nat.le_of_ble_eq_true rfl) dJ1_indexOf_4cfef_33 ?_
      obtain rfl := Option.some.inj h
      exact g_ireturn X hE dJ1_indexOf_4cfef_36
    · have h := (if_neg hc).symm.trans h
      refine g_iconst X (pc := 27) (v := (-1)) dJ1_indexOf_4cfef_27 (by decide) ?_
      obtain rfl := Option.some.inj h
      exact g_ireturn X hE dJ1_indexOf_4cfef_28
  · have h := (if_pos hc).symm.trans h
    refine g_iconst X (pc := 7) (v := (-1)) dJ1_indexOf_4cfef_7 (by decide) ?_
    obtain rfl := Option.some.inj h
    exact g_ireturn X hE dJ1_indexOf_4cfef_8
theorem hyJ1_indexOf_4cfef : yJ1_indexOf_4cfef.cls ≠ "java/lang/invoke/MethodHandle" ∧ yJ1_indexOf_4cfef.cls ≠ "java/lang/invoke/VarHandle" ∧ (parseMethodDescriptor yJ1_indexOf_4cfef.desc).map (fun d => d.parameters.length) = some 4 := ⟨by decide +kernel, by decide +kernel, by decide +kernel⟩
theorem ctJ1_indexOf_4cfef (l : Launch) (E : Nat → Nat) (D : va_G) (dA : Nat → ClassId) (lo : Nat) (H0 : Heap) (fu : Nat) (a0 : Option Nat) (a1 : Int32) (a2 : Int32) (a3 : Int32) (M : Mm) (out : Int32 × Mm) (h : fJ1_indexOf_4cfef fu a0 a1 a2 a3 M = some out) : Ct l E D dA lo H0 yJ1_indexOf_4cfef cJ1_indexOf_4cfef 4 (some .int) 1 25 [pR a0, pI a1, pI a2, pI a3] M (some (pI out.1)) out.2 := by
  refine ct_of (by decide +kernel) (Nat.le_of_ble_eq_true rfl) ?_
  intro x hl he hd ha ho hh hn hin X hE
  exact wJ1_indexOf_4cfef X hE hn fu a0 a1 a2 a3 M h
/-! jdk/internal/util/Preconditions.checkFromToIndex(IIILjava/util/function/BiFunction;)I -/
def fJ3_checkFromToIndex_8c36e_L14 (fu : Nat)  (a0 : Int32) (a1 : Int32) (a2 : Int32) (a3 : Option Nat)  (M : Mm) : Option (Int32 × Mm) :=
    none
def fJ3_checkFromToIndex_8c36e (fu : Nat)  (a0 : Int32) (a1 : Int32) (a2 : Int32) (a3 : Option Nat)  (M : Mm) : Option (Int32 × Mm) :=
    if a0 < 0 then (
    fJ3_checkFromToIndex_8c36e_L14 fu  a0 a1 a2 a3 M)
    else (
    if a1 < a0 then (
    fJ3_checkFromToIndex_8c36e_L14 fu  a0 a1 a2 a3 M)
    else (
    if a1 ≤ a2 then (
    some (a0, M))
    else (
    fJ3_checkFromToIndex_8c36e_L14 fu  a0 a1 a2 a3 M)))
theorem dJ3_checkFromToIndex_8c36e_0 : decode cJ3_checkFromToIndex_8c36e 0 = .ok (.iload_n 0, 1) := by decide +kernel
theorem dJ3_checkFromToIndex_8c36e_1 : decode cJ3_checkFromToIndex_8c36e 1 = .ok (.ifCond .lt 13, 3) := by decide +kernel
theorem dJ3_checkFromToIndex_8c36e_4 : decode cJ3_checkFromToIndex_8c36e 4 = .ok (.iload_n 0, 1) := by decide +kernel
theorem dJ3_checkFromToIndex_8c36e_5 : decode cJ3_checkFromToIndex_8c36e 5 = .ok (.iload_n 1, 1) := by decide +kernel
theorem dJ3_checkFromToIndex_8c36e_6 : decode cJ3_checkFromToIndex_8c36e 6 = .ok (.if_icmp .gt 8, 3) := by decide +kernel
theorem dJ3_checkFromToIndex_8c36e_9 : decode cJ3_checkFromToIndex_8c36e 9 = .ok (.iload_n 1, 1) := by decide +kernel
theorem dJ3_checkFromToIndex_8c36e_10 : decode cJ3_checkFromToIndex_8c36e 10 = .ok (.iload_n 2, 1) := by decide +kernel
theorem dJ3_checkFromToIndex_8c36e_11 : decode cJ3_checkFromToIndex_8c36e 11 = .ok (.if_icmp .le 11, 3) := by decide +kernel
theorem dJ3_checkFromToIndex_8c36e_14 : decode cJ3_checkFromToIndex_8c36e 14 = .ok (.aload_n 3, 1) := by decide +kernel
theorem dJ3_checkFromToIndex_8c36e_15 : decode cJ3_checkFromToIndex_8c36e 15 = .ok (.iload_n 0, 1) := by decide +kernel
theorem dJ3_checkFromToIndex_8c36e_16 : decode cJ3_checkFromToIndex_8c36e 16 = .ok (.iload_n 1, 1) := by decide +kernel
theorem dJ3_checkFromToIndex_8c36e_17 : decode cJ3_checkFromToIndex_8c36e 17 = .ok (.iload_n 2, 1) := by decide +kernel
theorem dJ3_checkFromToIndex_8c36e_22 : decode cJ3_checkFromToIndex_8c36e 22 = .ok (.iload_n 0, 1) := by decide +kernel
theorem dJ3_checkFromToIndex_8c36e_23 : decode cJ3_checkFromToIndex_8c36e 23 = .ok (.ireturn, 1) := by decide +kernel
theorem wJ3_checkFromToIndex_8c36e_L14 {x : GX} {n0 sl0 : Nat} (X : Cx x cJ3_checkFromToIndex_8c36e RJ3 (some .int) n0 sl0 0 0) {out : Int32 × Mm} (hE : Ends x n0 sl0 (some (pI out.1)) out.2) (hn : xn x = 4) (fu : Nat)   (a0 : Int32) (a1 : Int32) (a2 : Int32) (a3 : Option Nat)  (M : Mm) (h : fJ3_checkFromToIndex_8c36e_L14 fu  a0 a1 a2 a3 M = some out) : Gw x M 14 [(0, pI a0), (1, pI a1), (2, pI a2), (3, pR a3)] [] := by
  unfold fJ3_checkFromToIndex_8c36e_L14 at h
  refine g_aload_n X (pc := 14) 3 rfl rfl dJ3_checkFromToIndex_8c36e_14 ?_
  refine g_iload_n X (pc := 15) 0 rfl rfl dJ3_checkFromToIndex_8c36e_15 ?_
  refine g_iload_n X (pc := 16) 1 rfl rfl dJ3_checkFromToIndex_8c36e_16 ?_
  refine g_iload_n X (pc := 17) 2 rfl rfl dJ3_checkFromToIndex_8c36e_17 ?_
  cases h
theorem wJ3_checkFromToIndex_8c36e {x : GX} {n0 sl0 : Nat} (X : Cx x cJ3_checkFromToIndex_8c36e RJ3 (some .int) n0 sl0 0 0) {out : Int32 × Mm} (hE : Ends x n0 sl0 (some (pI out.1)) out.2) (hn : xn x = 4) (fu : Nat)   (a0 : Int32) (a1 : Int32) (a2 : Int32) (a3 : Option Nat)  (M : Mm) (h : fJ3_checkFromToIndex_8c36e fu  a0 a1 a2 a3 M = some out) : Gw x M 0 [(0, pI a0), (1, pI a1), (2, pI a2), (3, pR a3)] [] := by
  unfold fJ3_checkFromToIndex_8c36e at h
  refine g_iload_n X (pc := 0) 0 rfl rfl dJ3_checkFromToIndex_8c36e_0 ?_
  refine g_if_lt X (pc := 1) (tgt := 14) dJ3_checkFromToIndex_8c36e_1 (by decide) (fun hc => ?_) (fun hc => ?_)
  · have h := (if_pos hc).symm.trans h
    exact wJ3_checkFromToIndex_8c36e_L14 X hE hn fu   a0 a1 a2 a3 M h
  · have h := (if_neg hc).symm.trans h
    refine g_iload_n X (pc := 4) 0 rfl rfl dJ3_checkFromToIndex_8c36e_4 ?_
    refine g_iload_n X (pc := 5) 1 rfl rfl dJ3_checkFromToIndex_8c36e_5 ?_
    refine g_icmp_gt X (pc := 6) (tgt := 14) dJ3_checkFromToIndex_8c36e_6 (by decide) (fun hc => ?_) (fun hc => ?_)
    · have h := (if_pos hc).symm.trans h
      exact wJ3_checkFromToIndex_8c36e_L14 X hE hn fu   a0 a1 a2 a3 M h
    · have h := (if_neg hc).symm.trans h
      refine g_iload_n X (pc := 9) 1 rfl rfl dJ3_checkFromToIndex_8c36e_9 ?_
      refine g_iload_n X (pc := 10) 2 rfl rfl dJ3_checkFromToIndex_8c36e_10 ?_
      refine g_icmp_le X (pc := 11) (tgt := 22) dJ3_checkFromToIndex_8c36e_11 (by decide) (fun hc => ?_) (fun hc => ?_)
      · have h := (if_pos hc).symm.trans h
        refine g_iload_n X (pc := 22) 0 rfl rfl dJ3_checkFromToIndex_8c36e_22 ?_
        obtain rfl := Option.some.inj h
        exact g_ireturn X hE dJ3_checkFromToIndex_8c36e_23
      · have h := (if_neg hc).symm.trans h
        exact wJ3_checkFromToIndex_8c36e_L14 X hE hn fu   a0 a1 a2 a3 M h
theorem hyJ3_checkFromToIndex_8c36e : yJ3_checkFromToIndex_8c36e.cls ≠ "java/lang/invoke/MethodHandle" ∧ yJ3_checkFromToIndex_8c36e.cls ≠ "java/lang/invoke/VarHandle" ∧ (parseMethodDescriptor yJ3_checkFromToIndex_8c36e.desc).map (fun d => d.parameters.length) = some 4 := ⟨by decide +kernel, by decide +kernel, by decide +kernel⟩
theorem ctJ3_checkFromToIndex_8c36e (l : Launch) (E : Nat → Nat) (D : va_G) (dA : Nat → ClassId) (lo : Nat) (H0 : Heap) (fu : Nat) (a0 : Int32) (a1 : Int32) (a2 : Int32) (a3 : Option Nat) (M : Mm) (out : Int32 × Mm) (h : fJ3_checkFromToIndex_8c36e fu a0 a1 a2 a3 M = some out) : Ct l E D dA lo H0 yJ3_checkFromToIndex_8c36e cJ3_checkFromToIndex_8c36e 4 (some .int) 0 0 [pI a0, pI a1, pI a2, pR a3] M (some (pI out.1)) out.2 := by
  refine ct_of (by decide +kernel) (Nat.le_of_ble_eq_true rfl) ?_
  intro x hl he hd ha ho hh hn hin X hE
  exact wJ3_checkFromToIndex_8c36e X hE hn fu a0 a1 a2 a3 M h
/-! java/lang/String.checkBoundsBeginEnd(III)V -/
def fJ0_checkBoundsBeginEnd_23922 (fu : Nat)  (a0 : Int32) (a1 : Int32) (a2 : Int32)  (M : Mm) : Option (Mm) :=
    b2 (fJ3_checkFromToIndex_8c36e fu  a0 a1 a2 (none) M) fun v2 M1 =>
    some M1
theorem dJ0_checkBoundsBeginEnd_23922_0 : decode cJ0_checkBoundsBeginEnd_23922 0 = .ok (.iload_n 0, 1) := by decide +kernel
theorem dJ0_checkBoundsBeginEnd_23922_1 : decode cJ0_checkBoundsBeginEnd_23922 1 = .ok (.iload_n 1, 1) := by decide +kernel
theorem dJ0_checkBoundsBeginEnd_23922_2 : decode cJ0_checkBoundsBeginEnd_23922 2 = .ok (.iload_n 2, 1) := by decide +kernel
theorem dJ0_checkBoundsBeginEnd_23922_3 : decode cJ0_checkBoundsBeginEnd_23922 3 = .ok (.getstatic 1053, 3) := by decide +kernel
theorem dJ0_checkBoundsBeginEnd_23922_6 : decode cJ0_checkBoundsBeginEnd_23922 6 = .ok (.invokestatic 1062, 3) := by decide +kernel
theorem dJ0_checkBoundsBeginEnd_23922_9 : decode cJ0_checkBoundsBeginEnd_23922 9 = .ok (.pop, 1) := by decide +kernel
theorem dJ0_checkBoundsBeginEnd_23922_10 : decode cJ0_checkBoundsBeginEnd_23922 10 = .ok (.return_, 1) := by decide +kernel
theorem wJ0_checkBoundsBeginEnd_23922 {x : GX} {n0 sl0 : Nat} (X : Cx x cJ0_checkBoundsBeginEnd_23922 RJ0 none n0 sl0 1 23) {out : Mm} (hE : Ends x n0 sl0 none out) (hn : xn x = 3) (fu : Nat)   (a0 : Int32) (a1 : Int32) (a2 : Int32)  (M : Mm) (h : fJ0_checkBoundsBeginEnd_23922 fu  a0 a1 a2 M = some out) : Gw x M 0 [(0, pI a0), (1, pI a1), (2, pI a2)] [] := by
  unfold fJ0_checkBoundsBeginEnd_23922 at h
  refine g_iload_n X (pc := 0) 0 rfl rfl dJ0_checkBoundsBeginEnd_23922_0 ?_
  refine g_iload_n X (pc := 1) 1 rfl rfl dJ0_checkBoundsBeginEnd_23922_1 ?_
  refine g_iload_n X (pc := 2) 2 rfl rfl dJ0_checkBoundsBeginEnd_23922_2 ?_
  refine g_getsF X (pc := 3) tb_1235 dJ0_checkBoundsBeginEnd_23922_3 (fun o9 => ?_)
  obtain ⟨v2, M1, eM1, h⟩ := b2d h
  refine g_callS X (pc := 6) (M' := M1) (ro := some (pI v2)) (as := [pI a0, pI a1, pI a2, pR (o9)]) (as' := [pR (o9), pI a2, pI a1, pI a0]) (st := []) (ctJ3_checkFromToIndex_8c36e _ _ _ _ _ _ fu  a0 a1 a2 (o9) M _ eM1) tb_1307 tb_1305 tb_1306 tb_23 hyJ3_checkFromToIndex_8c36e rfl rfl ⟨by decide, by decide⟩ (Nat.le_of_ble_eq_true rfl) dJ0_checkBoundsBeginEnd_23922_6 ?_
  refine g_pop X (pc := 9) rfl dJ0_checkBoundsBeginEnd_23922_9 ?_
  obtain rfl := Option.some.inj h
  exact g_return X hE dJ0_checkBoundsBeginEnd_23922_10
theorem hyJ0_checkBoundsBeginEnd_23922 : yJ0_checkBoundsBeginEnd_23922.cls ≠ "java/lang/invoke/MethodHandle" ∧ yJ0_checkBoundsBeginEnd_23922.cls ≠ "java/lang/invoke/VarHandle" ∧ (parseMethodDescriptor yJ0_checkBoundsBeginEnd_23922.desc).map (fun d => d.parameters.length) = some 3 := ⟨by decide +kernel, by decide +kernel, by decide +kernel⟩
theorem ctJ0_checkBoundsBeginEnd_23922 (l : Launch) (E : Nat → Nat) (D : va_G) (dA : Nat → ClassId) (lo : Nat) (H0 : Heap) (fu : Nat) (a0 : Int32) (a1 : Int32) (a2 : Int32) (M : Mm) (out : Mm) (h : fJ0_checkBoundsBeginEnd_23922 fu a0 a1 a2 M = some out) : Ct l E D dA lo H0 yJ0_checkBoundsBeginEnd_23922 cJ0_checkBoundsBeginEnd_23922 3 none 1 23 [pI a0, pI a1, pI a2] M none out := by
  refine ct_of (by decide +kernel) (Nat.le_of_ble_eq_true rfl) ?_
  intro x hl he hd ha ho hh hn hin X hE
  exact wJ0_checkBoundsBeginEnd_23922 X hE hn fu a0 a1 a2 M h
/-! java/lang/StringUTF16.checkBoundsBeginEnd(II[B)V -/
def fJ2_checkBoundsBeginEnd_d044e (fu : Nat)  (a0 : Int32) (a1 : Int32) (a2 : Option Nat)  (M : Mm) : Option (Mm) :=
    b2 (fJ2_length_9d52b fu  a2 M) fun v2 M1 =>
    (fJ0_checkBoundsBeginEnd_23922 fu  a0 a1 v2 M1).bind fun M3 =>
    some M3
theorem dJ2_checkBoundsBeginEnd_d044e_0 : decode cJ2_checkBoundsBeginEnd_d044e 0 = .ok (.iload_n 0, 1) := by decide +kernel
theorem dJ2_checkBoundsBeginEnd_d044e_1 : decode cJ2_checkBoundsBeginEnd_d044e 1 = .ok (.iload_n 1, 1) := by decide +kernel
theorem dJ2_checkBoundsBeginEnd_d044e_2 : decode cJ2_checkBoundsBeginEnd_d044e 2 = .ok (.aload_n 2, 1) := by decide +kernel
theorem dJ2_checkBoundsBeginEnd_d044e_3 : decode cJ2_checkBoundsBeginEnd_d044e 3 = .ok (.invokestatic 48, 3) := by decide +kernel
theorem dJ2_checkBoundsBeginEnd_d044e_6 : decode cJ2_checkBoundsBeginEnd_d044e 6 = .ok (.invokestatic 241, 3) := by decide +kernel
theorem dJ2_checkBoundsBeginEnd_d044e_9 : decode cJ2_checkBoundsBeginEnd_d044e 9 = .ok (.return_, 1) := by decide +kernel
theorem wJ2_checkBoundsBeginEnd_d044e {x : GX} {n0 sl0 : Nat} (X : Cx x cJ2_checkBoundsBeginEnd_d044e RJ2 none n0 sl0 2 45) {out : Mm} (hE : Ends x n0 sl0 none out) (hn : xn x = 3) (fu : Nat)   (a0 : Int32) (a1 : Int32) (a2 : Option Nat)  (M : Mm) (h : fJ2_checkBoundsBeginEnd_d044e fu  a0 a1 a2 M = some out) : Gw x M 0 [(0, pI a0), (1, pI a1), (2, pR a2)] [] := by
  unfold fJ2_checkBoundsBeginEnd_d044e at h
  refine g_iload_n X (pc := 0) 0 rfl rfl dJ2_checkBoundsBeginEnd_d044e_0 ?_
  refine g_iload_n X (pc := 1) 1 rfl rfl dJ2_checkBoundsBeginEnd_d044e_1 ?_
  refine g_aload_n X (pc := 2) 2 rfl rfl dJ2_checkBoundsBeginEnd_d044e_2 ?_
  obtain ⟨v2, M1, eM1, h⟩ := b2d h
  refine g_callS X (pc := 3) (M' := M1) (ro := some (pI v2)) (as := [pR a2]) (as' := [pR a2]) (st := [pI a1, pI a0]) (ctJ2_length_9d52b _ _ _ _ _ _ fu  a2 M _ eM1) tb_1248 tb_1246 tb_1247 tb_24 hyJ2_length_9d52b rfl rfl ⟨by decide, by decide⟩ (Nat.le_of_ble_eq_true rfl) dJ2_checkBoundsBeginEnd_d044e_3 ?_
  obtain ⟨M3, eM3, h⟩ := bd h
  refine g_callS X (pc := 6) (M' := M3) (ro := none) (as := [pI a0, pI a1, pI v2]) (as' := [pI v2, pI a1, pI a0]) (st := []) (ctJ0_checkBoundsBeginEnd_23922 _ _ _ _ _ _ fu  a0 a1 v2 M1 _ eM3) tb_1304 tb_1302 tb_1303 tb_21 hyJ0_checkBoundsBeginEnd_23922 rfl rfl ⟨by decide, by decide⟩ (Nat.le_of_ble_eq_true rfl) dJ2_checkBoundsBeginEnd_d044e_6 ?_
  obtain rfl := Option.some.inj h
  exact g_return X hE dJ2_checkBoundsBeginEnd_d044e_9
theorem hyJ2_checkBoundsBeginEnd_d044e : yJ2_checkBoundsBeginEnd_d044e.cls ≠ "java/lang/invoke/MethodHandle" ∧ yJ2_checkBoundsBeginEnd_d044e.cls ≠ "java/lang/invoke/VarHandle" ∧ (parseMethodDescriptor yJ2_checkBoundsBeginEnd_d044e.desc).map (fun d => d.parameters.length) = some 3 := ⟨by decide +kernel, by decide +kernel, by decide +kernel⟩
theorem ctJ2_checkBoundsBeginEnd_d044e (l : Launch) (E : Nat → Nat) (D : va_G) (dA : Nat → ClassId) (lo : Nat) (H0 : Heap) (fu : Nat) (a0 : Int32) (a1 : Int32) (a2 : Option Nat) (M : Mm) (out : Mm) (h : fJ2_checkBoundsBeginEnd_d044e fu a0 a1 a2 M = some out) : Ct l E D dA lo H0 yJ2_checkBoundsBeginEnd_d044e cJ2_checkBoundsBeginEnd_d044e 3 none 2 45 [pI a0, pI a1, pR a2] M none out := by
  refine ct_of (by decide +kernel) (Nat.le_of_ble_eq_true rfl) ?_
  intro x hl he hd ha ho hh hn hin X hE
  exact wJ2_checkBoundsBeginEnd_d044e X hE hn fu a0 a1 a2 M h
/-! java/lang/StringUTF16.indexOfCharUnsafe([BIII)I -/
def fJ2_indexOfCharUnsafe_4cfef_L3 (fu : Nat)  : Nat → Option Nat → Int32 → Int32 → Int32 → Mm → Option (Int32 × Mm)
  | 0, _, _, _, _, _ => none
  | n + 1, a0, a1, a3, a4, M =>
    if a3 ≤ a4 then (
    some ((-1 : Int32), M))
    else (
    none)
def fJ2_indexOfCharUnsafe_4cfef (fu : Nat)  (a0 : Option Nat) (a1 : Int32) (a2 : Int32) (a3 : Int32)  (M : Mm) : Option (Int32 × Mm) :=
    fJ2_indexOfCharUnsafe_4cfef_L3 fu  fu a0 a1 a3 a2 M
theorem dJ2_indexOfCharUnsafe_4cfef_0 : decode cJ2_indexOfCharUnsafe_4cfef 0 = .ok (.iload_n 2, 1) := by decide +kernel
theorem dJ2_indexOfCharUnsafe_4cfef_1 : decode cJ2_indexOfCharUnsafe_4cfef 1 = .ok (.istore 4, 2) := by decide +kernel
theorem dJ2_indexOfCharUnsafe_4cfef_3 : decode cJ2_indexOfCharUnsafe_4cfef 3 = .ok (.iload 4, 2) := by decide +kernel
theorem dJ2_indexOfCharUnsafe_4cfef_5 : decode cJ2_indexOfCharUnsafe_4cfef 5 = .ok (.iload_n 3, 1) := by decide +kernel
theorem dJ2_indexOfCharUnsafe_4cfef_6 : decode cJ2_indexOfCharUnsafe_4cfef 6 = .ok (.if_icmp .ge 22, 3) := by decide +kernel
theorem dJ2_indexOfCharUnsafe_4cfef_9 : decode cJ2_indexOfCharUnsafe_4cfef 9 = .ok (.aload_n 0, 1) := by decide +kernel
theorem dJ2_indexOfCharUnsafe_4cfef_10 : decode cJ2_indexOfCharUnsafe_4cfef 10 = .ok (.iload 4, 2) := by decide +kernel
theorem dJ2_indexOfCharUnsafe_4cfef_12 : decode cJ2_indexOfCharUnsafe_4cfef 12 = .ok (.invokestatic 71, 3) := by decide +kernel
theorem dJ2_indexOfCharUnsafe_4cfef_28 : decode cJ2_indexOfCharUnsafe_4cfef 28 = .ok (.iconst (-1), 1) := by decide +kernel
theorem dJ2_indexOfCharUnsafe_4cfef_29 : decode cJ2_indexOfCharUnsafe_4cfef 29 = .ok (.ireturn, 1) := by decide +kernel
theorem wJ2_indexOfCharUnsafe_4cfef_L3 {x : GX} {n0 sl0 : Nat} (X : Cx x cJ2_indexOfCharUnsafe_4cfef RJ2 (some .int) n0 sl0 0 0) {out : Int32 × Mm} (hE : Ends x n0 sl0 (some (pI out.1)) out.2) (hn : xn x = 5) (fu : Nat)   : ∀ (n : Nat) (a0 : Option Nat) (a1 : Int32) (a3 : Int32) (a4 : Int32)  (M : Mm), fJ2_indexOfCharUnsafe_4cfef_L3 fu  n a0 a1 a3 a4 M = some out → Gw x M 3 [(0, pR a0), (1, pI a1), (3, pI a3), (4, pI a4)] [] := by
  intro n
  induction n with
  | zero =>
    intro a0 a1 a3 a4 M h
    have h : (none : Option (Int32 × Mm)) = some out := h
    cases h
  | succ n ih =>
    intro a0 a1 a3 a4 M h
    rw [fJ2_indexOfCharUnsafe_4cfef_L3] at h
    refine g_iload X (pc := 3) 3 rfl dJ2_indexOfCharUnsafe_4cfef_3 ?_
    refine g_iload_n X (pc := 5) 2 rfl rfl dJ2_indexOfCharUnsafe_4cfef_5 ?_
    refine g_icmp_ge X (pc := 6) (tgt := 28) dJ2_indexOfCharUnsafe_4cfef_6 (by decide) (fun hc => ?_) (fun hc => ?_)
    · have h := (if_pos hc).symm.trans h
      refine g_iconst X (pc := 28) (v := (-1)) dJ2_indexOfCharUnsafe_4cfef_28 (by decide) ?_
      obtain rfl := Option.some.inj h
      exact g_ireturn X hE dJ2_indexOfCharUnsafe_4cfef_29
    · have h := (if_neg hc).symm.trans h
      refine g_aload_n X (pc := 9) 0 rfl rfl dJ2_indexOfCharUnsafe_4cfef_9 ?_
      refine g_iload X (pc := 10) 3 rfl dJ2_indexOfCharUnsafe_4cfef_10 ?_
      cases h
theorem wJ2_indexOfCharUnsafe_4cfef {x : GX} {n0 sl0 : Nat} (X : Cx x cJ2_indexOfCharUnsafe_4cfef RJ2 (some .int) n0 sl0 0 0) {out : Int32 × Mm} (hE : Ends x n0 sl0 (some (pI out.1)) out.2) (hn : xn x = 5) (fu : Nat)   (a0 : Option Nat) (a1 : Int32) (a2 : Int32) (a3 : Int32)  (M : Mm) (h : fJ2_indexOfCharUnsafe_4cfef fu  a0 a1 a2 a3 M = some out) : Gw x M 0 [(0, pR a0), (1, pI a1), (2, pI a2), (3, pI a3)] [] := by
  unfold fJ2_indexOfCharUnsafe_4cfef at h
  refine g_iload_n X (pc := 0) 2 rfl rfl dJ2_indexOfCharUnsafe_4cfef_0 ?_
  refine g_istore X (pc := 1) [(4, pI a2), (0, pR a0), (1, pI a1), (2, pI a2), (3, pI a3)] (lt_n hn (by decide)) rfl dJ2_indexOfCharUnsafe_4cfef_1 ?_
  refine g_sub [1, 2, 4, 0] [(0, pR a0), (1, pI a1), (3, pI a3), (4, pI a2)] rfl ?_
  exact wJ2_indexOfCharUnsafe_4cfef_L3 X hE hn fu   fu a0 a1 a3 a2 M h
theorem hyJ2_indexOfCharUnsafe_4cfef : yJ2_indexOfCharUnsafe_4cfef.cls ≠ "java/lang/invoke/MethodHandle" ∧ yJ2_indexOfCharUnsafe_4cfef.cls ≠ "java/lang/invoke/VarHandle" ∧ (parseMethodDescriptor yJ2_indexOfCharUnsafe_4cfef.desc).map (fun d => d.parameters.length) = some 4 := ⟨by decide +kernel, by decide +kernel, by decide +kernel⟩
theorem ctJ2_indexOfCharUnsafe_4cfef (l : Launch) (E : Nat → Nat) (D : va_G) (dA : Nat → ClassId) (lo : Nat) (H0 : Heap) (fu : Nat) (a0 : Option Nat) (a1 : Int32) (a2 : Int32) (a3 : Int32) (M : Mm) (out : Int32 × Mm) (h : fJ2_indexOfCharUnsafe_4cfef fu a0 a1 a2 a3 M = some out) : Ct l E D dA lo H0 yJ2_indexOfCharUnsafe_4cfef cJ2_indexOfCharUnsafe_4cfef 5 (some .int) 0 0 [pR a0, pI a1, pI a2, pI a3] M (some (pI out.1)) out.2 := by
  refine ct_of (by decide +kernel) (Nat.le_of_ble_eq_true rfl) ?_
  intro x hl he hd ha ho hh hn hin X hE
  exact wJ2_indexOfCharUnsafe_4cfef X hE hn fu a0 a1 a2 a3 M h
/-! java/lang/StringUTF16.indexOfChar([BIII)I -/
def fJ2_indexOfChar_4cfef (fu : Nat)  (a0 : Option Nat) (a1 : Int32) (a2 : Int32) (a3 : Int32)  (M : Mm) : Option (Int32 × Mm) :=
    (fJ2_checkBoundsBeginEnd_d044e fu  a2 a3 a0 M).bind fun M1 =>
    b2 (fJ2_indexOfCharUnsafe_4cfef fu  a0 a1 a2 a3 M1) fun v3 M2 =>
    some (v3, M2)
theorem dJ2_indexOfChar_4cfef_0 : decode cJ2_indexOfChar_4cfef 0 = .ok (.iload_n 2, 1) := by decide +kernel
theorem dJ2_indexOfChar_4cfef_1 : decode cJ2_indexOfChar_4cfef 1 = .ok (.iload_n 3, 1) := by decide +kernel
theorem dJ2_indexOfChar_4cfef_2 : decode cJ2_indexOfChar_4cfef 2 = .ok (.aload_n 0, 1) := by decide +kernel
theorem dJ2_indexOfChar_4cfef_3 : decode cJ2_indexOfChar_4cfef 3 = .ok (.invokestatic 96, 3) := by decide +kernel
theorem dJ2_indexOfChar_4cfef_6 : decode cJ2_indexOfChar_4cfef 6 = .ok (.aload_n 0, 1) := by decide +kernel
theorem dJ2_indexOfChar_4cfef_7 : decode cJ2_indexOfChar_4cfef 7 = .ok (.iload_n 1, 1) := by decide +kernel
theorem dJ2_indexOfChar_4cfef_8 : decode cJ2_indexOfChar_4cfef 8 = .ok (.iload_n 2, 1) := by decide +kernel
theorem dJ2_indexOfChar_4cfef_9 : decode cJ2_indexOfChar_4cfef 9 = .ok (.iload_n 3, 1) := by decide +kernel
theorem dJ2_indexOfChar_4cfef_10 : decode cJ2_indexOfChar_4cfef 10 = .ok (.invokestatic 244, 3) := by decide +kernel
theorem dJ2_indexOfChar_4cfef_13 : decode cJ2_indexOfChar_4cfef 13 = .ok (.ireturn, 1) := by decide +kernel
theorem wJ2_indexOfChar_4cfef {x : GX} {n0 sl0 : Nat} (X : Cx x cJ2_indexOfChar_4cfef RJ2 (some .int) n0 sl0 3 67) {out : Int32 × Mm} (hE : Ends x n0 sl0 (some (pI out.1)) out.2) (hn : xn x = 4) (fu : Nat)   (a0 : Option Nat) (a1 : Int32) (a2 : Int32) (a3 : Int32)  (M : Mm) (h : fJ2_indexOfChar_4cfef fu  a0 a1 a2 a3 M = some out) : Gw x M 0 [(0, pR a0), (1, pI a1), (2, pI a2), (3, pI a3)] [] := by
  unfold fJ2_indexOfChar_4cfef at h
  refine g_iload_n X (pc := 0) 2 rfl rfl dJ2_indexOfChar_4cfef_0 ?_
  refine g_iload_n X (pc := 1) 3 rfl rfl dJ2_indexOfChar_4cfef_1 ?_
  refine g_aload_n X (pc := 2) 0 rfl rfl dJ2_indexOfChar_4cfef_2 ?_
  obtain ⟨M1, eM1, h⟩ := bd h
  refine g_callS X (pc := 3) (M' := M1) (ro := none) (as := [pI a2, pI a3, pR a0]) (as' := [pR a0, pI a3, pI a2]) (st := []) (ctJ2_checkBoundsBeginEnd_d044e _ _ _ _ _ _ fu  a2 a3 a0 M _ eM1) tb_1301 tb_1299 tb_1300 tb_24 hyJ2_checkBoundsBeginEnd_d044e rfl rfl ⟨by decide, by decide⟩ (Nat.le_of_ble_eq_true rfl) dJ2_indexOfChar_4cfef_3 ?_
  refine g_aload_n X (pc := 6) 0 rfl rfl dJ2_indexOfChar_4cfef_6 ?_
  refine g_iload_n X (pc := 7) 1 rfl rfl dJ2_indexOfChar_4cfef_7 ?_
  refine g_iload_n X (pc := 8) 2 rfl rfl dJ2_indexOfChar_4cfef_8 ?_
  refine g_iload_n X (pc := 9) 3 rfl rfl dJ2_indexOfChar_4cfef_9 ?_
  obtain ⟨v3, M2, eM2, h⟩ := b2d h
  refine g_callS X (pc := 10) (M' := M2) (ro := some (pI v3)) (as := [pR a0, pI a1, pI a2, pI a3]) (as' := [pI a3, pI a2, pI a1, pR a0]) (st := []) (ctJ2_indexOfCharUnsafe_4cfef _ _ _ _ _ _ fu  a0 a1 a2 a3 M1 _ eM2) tb_1310 tb_1308 tb_1309 tb_24 hyJ2_indexOfCharUnsafe_4cfef rfl rfl ⟨by decide, by decide⟩ (Nat.le_of_ble_eq_true rfl) dJ2_indexOfChar_4cfef_10 ?_
  obtain rfl := Option.some.inj h
  exact g_ireturn X hE dJ2_indexOfChar_4cfef_13
theorem hyJ2_indexOfChar_4cfef : yJ2_indexOfChar_4cfef.cls ≠ "java/lang/invoke/MethodHandle" ∧ yJ2_indexOfChar_4cfef.cls ≠ "java/lang/invoke/VarHandle" ∧ (parseMethodDescriptor yJ2_indexOfChar_4cfef.desc).map (fun d => d.parameters.length) = some 4 := ⟨by decide +kernel, by decide +kernel, by decide +kernel⟩
theorem ctJ2_indexOfChar_4cfef (l : Launch) (E : Nat → Nat) (D : va_G) (dA : Nat → ClassId) (lo : Nat) (H0 : Heap) (fu : Nat) (a0 : Option Nat) (a1 : Int32) (a2 : Int32) (a3 : Int32) (M : Mm) (out : Int32 × Mm) (h : fJ2_indexOfChar_4cfef fu a0 a1 a2 a3 M = some out) : Ct l E D dA lo H0 yJ2_indexOfChar_4cfef cJ2_indexOfChar_4cfef 4 (some .int) 3 67 [pR a0, pI a1, pI a2, pI a3] M (some (pI out.1)) out.2 := by
  refine ct_of (by decide +kernel) (Nat.le_of_ble_eq_true rfl) ?_
  intro x hl he hd ha ho hh hn hin X hE
  exact wJ2_indexOfChar_4cfef X hE hn fu a0 a1 a2 a3 M h
/-! java/lang/Character.isValidCodePoint(I)Z -/
def fJ11_isValidCodePoint_9a6ad (fu : Nat)  (a0 : Int32)  (M : Mm) : Option (Int32 × Mm) :=
    if (17 : Int32) ≤ (ushr a0 (16 : Int32)) then (
    rN .boolean (0 : Int32) M)
    else (
    rN .boolean (1 : Int32) M)
theorem dJ11_isValidCodePoint_9a6ad_0 : decode cJ11_isValidCodePoint_9a6ad 0 = .ok (.iload_n 0, 1) := by decide +kernel
theorem dJ11_isValidCodePoint_9a6ad_1 : decode cJ11_isValidCodePoint_9a6ad 1 = .ok (.bipush 16, 2) := by decide +kernel
theorem dJ11_isValidCodePoint_9a6ad_3 : decode cJ11_isValidCodePoint_9a6ad 3 = .ok (.iushr, 1) := by decide +kernel
theorem dJ11_isValidCodePoint_9a6ad_4 : decode cJ11_isValidCodePoint_9a6ad 4 = .ok (.istore_n 1, 1) := by decide +kernel
theorem dJ11_isValidCodePoint_9a6ad_5 : decode cJ11_isValidCodePoint_9a6ad 5 = .ok (.iload_n 1, 1) := by decide +kernel
theorem dJ11_isValidCodePoint_9a6ad_6 : decode cJ11_isValidCodePoint_9a6ad 6 = .ok (.bipush 17, 2) := by decide +kernel
theorem dJ11_isValidCodePoint_9a6ad_8 : decode cJ11_isValidCodePoint_9a6ad 8 = .ok (.if_icmp .ge 7, 3) := by decide +kernel
theorem dJ11_isValidCodePoint_9a6ad_11 : decode cJ11_isValidCodePoint_9a6ad 11 = .ok (.iconst 1, 1) := by decide +kernel
theorem dJ11_isValidCodePoint_9a6ad_12 : decode cJ11_isValidCodePoint_9a6ad 12 = .ok (.goto 4, 3) := by decide +kernel
theorem dJ11_isValidCodePoint_9a6ad_15 : decode cJ11_isValidCodePoint_9a6ad 15 = .ok (.iconst 0, 1) := by decide +kernel
theorem dJ11_isValidCodePoint_9a6ad_16 : decode cJ11_isValidCodePoint_9a6ad 16 = .ok (.ireturn, 1) := by decide +kernel
theorem wJ11_isValidCodePoint_9a6ad {x : GX} {n0 sl0 : Nat} (X : Cx x cJ11_isValidCodePoint_9a6ad RJ11 (some .boolean) n0 sl0 0 0) {out : Int32 × Mm} (hE : Ends x n0 sl0 (some (pI out.1)) out.2) (hn : xn x = 2) (fu : Nat)   (a0 : Int32)  (M : Mm) (h : fJ11_isValidCodePoint_9a6ad fu  a0 M = some out) : Gw x M 0 [(0, pI a0)] [] := by
  unfold fJ11_isValidCodePoint_9a6ad at h
  refine g_iload_n X (pc := 0) 0 rfl rfl dJ11_isValidCodePoint_9a6ad_0 ?_
  refine g_bipush X (pc := 1) (v := 16) dJ11_isValidCodePoint_9a6ad_1 (by decide) ?_
  refine g_iushr X (pc := 3) dJ11_isValidCodePoint_9a6ad_3 ?_
  refine g_istore_n X (pc := 4) [(1, pI (ushr a0 (16 : Int32))), (0, pI a0)] rfl (lt_n hn (by decide)) rfl dJ11_isValidCodePoint_9a6ad_4 ?_
  refine g_iload_n X (pc := 5) 0 rfl rfl dJ11_isValidCodePoint_9a6ad_5 ?_
  refine g_bipush X (pc := 6) (v := 17) dJ11_isValidCodePoint_9a6ad_6 (by decide) ?_
  refine g_icmp_ge X (pc := 8) (tgt := 15) dJ11_isValidCodePoint_9a6ad_8 (by decide) (fun hc => ?_) (fun hc => ?_)
  · have h := (if_pos hc).symm.trans h
    refine g_iconst X (pc := 15) (v := 0) dJ11_isValidCodePoint_9a6ad_15 (by decide) ?_
    obtain ⟨hz, rfl⟩ := rN_some h
    exact g_nreturn X rfl hz hE dJ11_isValidCodePoint_9a6ad_16
  · have h := (if_neg hc).symm.trans h
    refine g_iconst X (pc := 11) (v := 1) dJ11_isValidCodePoint_9a6ad_11 (by decide) ?_
    refine g_goto X (pc := 12) (tgt := 16) dJ11_isValidCodePoint_9a6ad_12 (by decide) ?_
    obtain ⟨hz, rfl⟩ := rN_some h
    exact g_nreturn X rfl hz hE dJ11_isValidCodePoint_9a6ad_16
theorem hyJ11_isValidCodePoint_9a6ad : yJ11_isValidCodePoint_9a6ad.cls ≠ "java/lang/invoke/MethodHandle" ∧ yJ11_isValidCodePoint_9a6ad.cls ≠ "java/lang/invoke/VarHandle" ∧ (parseMethodDescriptor yJ11_isValidCodePoint_9a6ad.desc).map (fun d => d.parameters.length) = some 1 := ⟨by decide +kernel, by decide +kernel, by decide +kernel⟩
theorem ctJ11_isValidCodePoint_9a6ad (l : Launch) (E : Nat → Nat) (D : va_G) (dA : Nat → ClassId) (lo : Nat) (H0 : Heap) (fu : Nat) (a0 : Int32) (M : Mm) (out : Int32 × Mm) (h : fJ11_isValidCodePoint_9a6ad fu a0 M = some out) : Ct l E D dA lo H0 yJ11_isValidCodePoint_9a6ad cJ11_isValidCodePoint_9a6ad 2 (some .boolean) 0 0 [pI a0] M (some (pI out.1)) out.2 := by
  refine ct_of (by decide +kernel) (Nat.le_of_ble_eq_true rfl) ?_
  intro x hl he hd ha ho hh hn hin X hE
  exact wJ11_isValidCodePoint_9a6ad X hE hn fu a0 M h
/-! java/lang/Character.highSurrogate(I)C -/
def fJ11_highSurrogate_5068e (fu : Nat)  (a0 : Int32)  (M : Mm) : Option (Int32 × Mm) :=
    rN .char (i2c ((ushr a0 (10 : Int32)) + (55232 : Int32))) M
theorem dJ11_highSurrogate_5068e_0 : decode cJ11_highSurrogate_5068e 0 = .ok (.iload_n 0, 1) := by decide +kernel
theorem dJ11_highSurrogate_5068e_1 : decode cJ11_highSurrogate_5068e 1 = .ok (.bipush 10, 2) := by decide +kernel
theorem dJ11_highSurrogate_5068e_3 : decode cJ11_highSurrogate_5068e 3 = .ok (.iushr, 1) := by decide +kernel
theorem dJ11_highSurrogate_5068e_4 : decode cJ11_highSurrogate_5068e 4 = .ok (.ldc 110, 2) := by decide +kernel
theorem dJ11_highSurrogate_5068e_6 : decode cJ11_highSurrogate_5068e 6 = .ok (.iadd, 1) := by decide +kernel
theorem dJ11_highSurrogate_5068e_7 : decode cJ11_highSurrogate_5068e 7 = .ok (.i2c, 1) := by decide +kernel
theorem dJ11_highSurrogate_5068e_8 : decode cJ11_highSurrogate_5068e 8 = .ok (.ireturn, 1) := by decide +kernel
theorem wJ11_highSurrogate_5068e {x : GX} {n0 sl0 : Nat} (X : Cx x cJ11_highSurrogate_5068e RJ11 (some .char) n0 sl0 0 0) {out : Int32 × Mm} (hE : Ends x n0 sl0 (some (pI out.1)) out.2) (hn : xn x = 1) (fu : Nat)   (a0 : Int32)  (M : Mm) (h : fJ11_highSurrogate_5068e fu  a0 M = some out) : Gw x M 0 [(0, pI a0)] [] := by
  unfold fJ11_highSurrogate_5068e at h
  refine g_iload_n X (pc := 0) 0 rfl rfl dJ11_highSurrogate_5068e_0 ?_
  refine g_bipush X (pc := 1) (v := 10) dJ11_highSurrogate_5068e_1 (by decide) ?_
  refine g_iushr X (pc := 3) dJ11_highSurrogate_5068e_3 ?_
  refine g_ldc X (pc := 4) tb_1320 dJ11_highSurrogate_5068e_4 ?_
  refine g_iadd X (pc := 6) dJ11_highSurrogate_5068e_6 ?_
  refine g_i2c X (pc := 7) dJ11_highSurrogate_5068e_7 ?_
  obtain ⟨hz, rfl⟩ := rN_some h
  exact g_nreturn X rfl hz hE dJ11_highSurrogate_5068e_8
theorem hyJ11_highSurrogate_5068e : yJ11_highSurrogate_5068e.cls ≠ "java/lang/invoke/MethodHandle" ∧ yJ11_highSurrogate_5068e.cls ≠ "java/lang/invoke/VarHandle" ∧ (parseMethodDescriptor yJ11_highSurrogate_5068e.desc).map (fun d => d.parameters.length) = some 1 := ⟨by decide +kernel, by decide +kernel, by decide +kernel⟩
theorem ctJ11_highSurrogate_5068e (l : Launch) (E : Nat → Nat) (D : va_G) (dA : Nat → ClassId) (lo : Nat) (H0 : Heap) (fu : Nat) (a0 : Int32) (M : Mm) (out : Int32 × Mm) (h : fJ11_highSurrogate_5068e fu a0 M = some out) : Ct l E D dA lo H0 yJ11_highSurrogate_5068e cJ11_highSurrogate_5068e 1 (some .char) 0 0 [pI a0] M (some (pI out.1)) out.2 := by
  refine ct_of (by decide +kernel) (Nat.le_of_ble_eq_true rfl) ?_
  intro x hl he hd ha ho hh hn hin X hE
  exact wJ11_highSurrogate_5068e X hE hn fu a0 M h
/-! java/lang/Character.lowSurrogate(I)C -/
def fJ11_lowSurrogate_5068e (fu : Nat)  (a0 : Int32)  (M : Mm) : Option (Int32 × Mm) :=
    rN .char (i2c ((a0 &&& (1023 : Int32)) + (56320 : Int32))) M
theorem dJ11_lowSurrogate_5068e_0 : decode cJ11_lowSurrogate_5068e 0 = .ok (.iload_n 0, 1) := by decide +kernel
theorem dJ11_lowSurrogate_5068e_1 : decode cJ11_lowSurrogate_5068e 1 = .ok (.sipush 1023, 3) := by decide +kernel
theorem dJ11_lowSurrogate_5068e_4 : decode cJ11_lowSurrogate_5068e 4 = .ok (.iand, 1) := by decide +kernel
theorem dJ11_lowSurrogate_5068e_5 : decode cJ11_lowSurrogate_5068e 5 = .ok (.ldc 76, 2) := by decide +kernel
theorem dJ11_lowSurrogate_5068e_7 : decode cJ11_lowSurrogate_5068e 7 = .ok (.iadd, 1) := by decide +kernel
theorem dJ11_lowSurrogate_5068e_8 : decode cJ11_lowSurrogate_5068e 8 = .ok (.i2c, 1) := by decide +kernel
theorem dJ11_lowSurrogate_5068e_9 : decode cJ11_lowSurrogate_5068e 9 = .ok (.ireturn, 1) := by decide +kernel
theorem wJ11_lowSurrogate_5068e {x : GX} {n0 sl0 : Nat} (X : Cx x cJ11_lowSurrogate_5068e RJ11 (some .char) n0 sl0 0 0) {out : Int32 × Mm} (hE : Ends x n0 sl0 (some (pI out.1)) out.2) (hn : xn x = 1) (fu : Nat)   (a0 : Int32)  (M : Mm) (h : fJ11_lowSurrogate_5068e fu  a0 M = some out) : Gw x M 0 [(0, pI a0)] [] := by
  unfold fJ11_lowSurrogate_5068e at h
  refine g_iload_n X (pc := 0) 0 rfl rfl dJ11_lowSurrogate_5068e_0 ?_
  refine g_sipush X (pc := 1) (v := 1023) dJ11_lowSurrogate_5068e_1 (by decide) ?_
  refine g_iand X (pc := 4) dJ11_lowSurrogate_5068e_4 ?_
  refine g_ldc X (pc := 5) tb_1324 dJ11_lowSurrogate_5068e_5 ?_
  refine g_iadd X (pc := 7) dJ11_lowSurrogate_5068e_7 ?_
  refine g_i2c X (pc := 8) dJ11_lowSurrogate_5068e_8 ?_
  obtain ⟨hz, rfl⟩ := rN_some h
  exact g_nreturn X rfl hz hE dJ11_lowSurrogate_5068e_9
theorem hyJ11_lowSurrogate_5068e : yJ11_lowSurrogate_5068e.cls ≠ "java/lang/invoke/MethodHandle" ∧ yJ11_lowSurrogate_5068e.cls ≠ "java/lang/invoke/VarHandle" ∧ (parseMethodDescriptor yJ11_lowSurrogate_5068e.desc).map (fun d => d.parameters.length) = some 1 := ⟨by decide +kernel, by decide +kernel, by decide +kernel⟩
theorem ctJ11_lowSurrogate_5068e (l : Launch) (E : Nat → Nat) (D : va_G) (dA : Nat → ClassId) (lo : Nat) (H0 : Heap) (fu : Nat) (a0 : Int32) (M : Mm) (out : Int32 × Mm) (h : fJ11_lowSurrogate_5068e fu a0 M = some out) : Ct l E D dA lo H0 yJ11_lowSurrogate_5068e cJ11_lowSurrogate_5068e 1 (some .char) 0 0 [pI a0] M (some (pI out.1)) out.2 := by
  refine ct_of (by decide +kernel) (Nat.le_of_ble_eq_true rfl) ?_
  intro x hl he hd ha ho hh hn hin X hE
  exact wJ11_lowSurrogate_5068e X hE hn fu a0 M h
/-! java/lang/StringUTF16.indexOfSupplementary([BIII)I -/
def fJ2_indexOfSupplementary_4cfef_L63 (fu : Nat) (k28 : Option Nat → Int32 → Int32 → Int32 → Int32 → Mm → Option (Int32 × Mm)) (a0 : Option Nat) (a3 : Int32) (a4 : Int32) (a5 : Int32) (a6 : Int32)  (M : Mm) : Option (Int32 × Mm) :=
    k28 a0 a3 a4 a5 (a6 + (1 : Int32)) M
def fJ2_indexOfSupplementary_4cfef_L28 (fu : Nat)  : Nat → Option Nat → Int32 → Int32 → Int32 → Int32 → Mm → Option (Int32 × Mm)
  | 0, _, _, _, _, _, _ => none
  | n + 1, a0, a3, a4, a5, a6, M =>
    if (a3 - (1 : Int32)) ≤ a6 then (
    some ((-1 : Int32), M))
    else (
    none)
def fJ2_indexOfSupplementary_4cfef (fu : Nat)  (a0 : Option Nat) (a1 : Int32) (a2 : Int32) (a3 : Int32)  (M : Mm) : Option (Int32 × Mm) :=
    b2 (fJ11_isValidCodePoint_9a6ad fu  a1 M) fun v2 M1 =>
    if v2 = 0 then (
    some ((-1 : Int32), M1))
    else (
    b2 (fJ11_highSurrogate_5068e fu  a1 M1) fun v4 M3 =>
    b2 (fJ11_lowSurrogate_5068e fu  a1 M3) fun v6 M5 =>
    (fJ2_checkBoundsBeginEnd_d044e fu  a2 a3 a0 M5).bind fun M7 =>
    fJ2_indexOfSupplementary_4cfef_L28 fu  fu a0 a3 v4 v6 a2 M7)
theorem dJ2_indexOfSupplementary_4cfef_0 : decode cJ2_indexOfSupplementary_4cfef 0 = .ok (.iload_n 1, 1) := by decide +kernel
theorem dJ2_indexOfSupplementary_4cfef_1 : decode cJ2_indexOfSupplementary_4cfef 1 = .ok (.invokestatic 164, 3) := by decide +kernel
theorem dJ2_indexOfSupplementary_4cfef_4 : decode cJ2_indexOfSupplementary_4cfef 4 = .ok (.ifCond .eq 65, 3) := by decide +kernel
theorem dJ2_indexOfSupplementary_4cfef_7 : decode cJ2_indexOfSupplementary_4cfef 7 = .ok (.iload_n 1, 1) := by decide +kernel
theorem dJ2_indexOfSupplementary_4cfef_8 : decode cJ2_indexOfSupplementary_4cfef 8 = .ok (.invokestatic 157, 3) := by decide +kernel
theorem dJ2_indexOfSupplementary_4cfef_11 : decode cJ2_indexOfSupplementary_4cfef 11 = .ok (.istore 4, 2) := by decide +kernel
theorem dJ2_indexOfSupplementary_4cfef_13 : decode cJ2_indexOfSupplementary_4cfef 13 = .ok (.iload_n 1, 1) := by decide +kernel
theorem dJ2_indexOfSupplementary_4cfef_14 : decode cJ2_indexOfSupplementary_4cfef 14 = .ok (.invokestatic 161, 3) := by decide +kernel
theorem dJ2_indexOfSupplementary_4cfef_17 : decode cJ2_indexOfSupplementary_4cfef 17 = .ok (.istore 5, 2) := by decide +kernel
theorem dJ2_indexOfSupplementary_4cfef_19 : decode cJ2_indexOfSupplementary_4cfef 19 = .ok (.iload_n 2, 1) := by decide +kernel
theorem dJ2_indexOfSupplementary_4cfef_20 : decode cJ2_indexOfSupplementary_4cfef 20 = .ok (.iload_n 3, 1) := by decide +kernel
theorem dJ2_indexOfSupplementary_4cfef_21 : decode cJ2_indexOfSupplementary_4cfef 21 = .ok (.aload_n 0, 1) := by decide +kernel
theorem dJ2_indexOfSupplementary_4cfef_22 : decode cJ2_indexOfSupplementary_4cfef 22 = .ok (.invokestatic 96, 3) := by decide +kernel
theorem dJ2_indexOfSupplementary_4cfef_25 : decode cJ2_indexOfSupplementary_4cfef 25 = .ok (.iload_n 2, 1) := by decide +kernel
theorem dJ2_indexOfSupplementary_4cfef_26 : decode cJ2_indexOfSupplementary_4cfef 26 = .ok (.istore 6, 2) := by decide +kernel
theorem dJ2_indexOfSupplementary_4cfef_28 : decode cJ2_indexOfSupplementary_4cfef 28 = .ok (.iload 6, 2) := by decide +kernel
theorem dJ2_indexOfSupplementary_4cfef_30 : decode cJ2_indexOfSupplementary_4cfef 30 = .ok (.iload_n 3, 1) := by decide +kernel
theorem dJ2_indexOfSupplementary_4cfef_31 : decode cJ2_indexOfSupplementary_4cfef 31 = .ok (.iconst 1, 1) := by decide +kernel
theorem dJ2_indexOfSupplementary_4cfef_32 : decode cJ2_indexOfSupplementary_4cfef 32 = .ok (.isub, 1) := by decide +kernel
theorem dJ2_indexOfSupplementary_4cfef_33 : decode cJ2_indexOfSupplementary_4cfef 33 = .ok (.if_icmp .ge 36, 3) := by decide +kernel
theorem dJ2_indexOfSupplementary_4cfef_36 : decode cJ2_indexOfSupplementary_4cfef 36 = .ok (.aload_n 0, 1) := by decide +kernel
theorem dJ2_indexOfSupplementary_4cfef_37 : decode cJ2_indexOfSupplementary_4cfef 37 = .ok (.iload 6, 2) := by decide +kernel
theorem dJ2_indexOfSupplementary_4cfef_39 : decode cJ2_indexOfSupplementary_4cfef 39 = .ok (.invokestatic 71, 3) := by decide +kernel
theorem dJ2_indexOfSupplementary_4cfef_63 : decode cJ2_indexOfSupplementary_4cfef 63 = .ok (.iinc 6 1, 3) := by decide +kernel
theorem dJ2_indexOfSupplementary_4cfef_66 : decode cJ2_indexOfSupplementary_4cfef 66 = .ok (.goto (-38), 3) := by decide +kernel
theorem dJ2_indexOfSupplementary_4cfef_69 : decode cJ2_indexOfSupplementary_4cfef 69 = .ok (.iconst (-1), 1) := by decide +kernel
theorem dJ2_indexOfSupplementary_4cfef_70 : decode cJ2_indexOfSupplementary_4cfef 70 = .ok (.ireturn, 1) := by decide +kernel
theorem wJ2_indexOfSupplementary_4cfef_L63 {x : GX} {n0 sl0 : Nat} (X : Cx x cJ2_indexOfSupplementary_4cfef RJ2 (some .int) n0 sl0 3 67) {out : Int32 × Mm} (hE : Ends x n0 sl0 (some (pI out.1)) out.2) (hn : xn x = 7) (fu : Nat) (k28 : Option Nat → Int32 → Int32 → Int32 → Int32 → Mm → Option (Int32 × Mm)) (hk28 : ∀ (b0 : Option Nat) (b3 : Int32) (b4 : Int32) (b5 : Int32) (b6 : Int32)  (M : Mm), k28 b0 b3 b4 b5 b6 M = some out → Gw x M 28 [(0, pR b0), (3, pI b3), (4, pI b4), (5, pI b5), (6, pI b6)] []) (a0 : Option Nat) (a3 : Int32) (a4 : Int32) (a5 : Int32) (a6 : Int32)  (M : Mm) (h : fJ2_indexOfSupplementary_4cfef_L63 fu k28 a0 a3 a4 a5 a6 M = some out) : Gw x M 63 [(0, pR a0), (3, pI a3), (4, pI a4), (5, pI a5), (6, pI a6)] [] := by
  unfold fJ2_indexOfSupplementary_4cfef_L63 at h
  refine g_iinc X (pc := 63) 4 [(6, pI (a6 + (1 : Int32))), (0, pR a0), (3, pI a3), (4, pI a4), (5, pI a5)] rfl (iinc_e (by decide)) (lt_n hn (by decide)) rfl dJ2_indexOfSupplementary_4cfef_63 ?_
  refine g_goto X (pc := 66) (tgt := 28) dJ2_indexOfSupplementary_4cfef_66 (by decide) ?_
  refine g_sub [1, 2, 3, 4, 0] [(0, pR a0), (3, pI a3), (4, pI a4), (5, pI a5), (6, pI (a6 + (1 : Int32)))] rfl ?_
  exact hk28 a0 a3 a4 a5 (a6 + (1 : Int32)) M h
theorem wJ2_indexOfSupplementary_4cfef_L28 {x : GX} {n0 sl0 : Nat} (X : Cx x cJ2_indexOfSupplementary_4cfef RJ2 (some .int) n0 sl0 3 67) {out : Int32 × Mm} (hE : Ends x n0 sl0 (some (pI out.1)) out.2) (hn : xn x = 7) (fu : Nat)   : ∀ (n : Nat) (a0 : Option Nat) (a3 : Int32) (a4 : Int32) (a5 : Int32) (a6 : Int32)  (M : Mm), fJ2_indexOfSupplementary_4cfef_L28 fu  n a0 a3 a4 a5 a6 M = some out → Gw x M 28 [(0, pR a0), (3, pI a3), (4, pI a4), (5, pI a5), (6, pI a6)] [] := by
  intro n
  induction n with
  | zero =>
    intro a0 a3 a4 a5 a6 M h
    have h : (none : Option (Int32 × Mm)) = some out := h
    cases h
  | succ n ih =>
    intro a0 a3 a4 a5 a6 M h
    rw [fJ2_indexOfSupplementary_4cfef_L28] at h
    refine g_iload X (pc := 28) 4 rfl dJ2_indexOfSupplementary_4cfef_28 ?_
    refine g_iload_n X (pc := 30) 1 rfl rfl dJ2_indexOfSupplementary_4cfef_30 ?_
    refine g_iconst X (pc := 31) (v := 1) dJ2_indexOfSupplementary_4cfef_31 (by decide) ?_
    refine g_isub X (pc := 32) dJ2_indexOfSupplementary_4cfef_32 ?_
    refine g_icmp_ge X (pc := 33) (tgt := 69) dJ2_indexOfSupplementary_4cfef_33 (by decide) (fun hc => ?_) (fun hc => ?_)
    · have h := (if_pos hc).symm.trans h
      refine g_iconst X (pc := 69) (v := (-1)) dJ2_indexOfSupplementary_4cfef_69 (by decide) ?_
      obtain rfl := Option.some.inj h
      exact g_ireturn X hE dJ2_indexOfSupplementary_4cfef_70
    · have h := (if_neg hc).symm.trans h
      refine g_aload_n X (pc := 36) 0 rfl rfl dJ2_indexOfSupplementary_4cfef_36 ?_
      refine g_iload X (pc := 37) 4 rfl dJ2_indexOfSupplementary_4cfef_37 ?_
      cases h
theorem wJ2_indexOfSupplementary_4cfef {x : GX} {n0 sl0 : Nat} (X : Cx x cJ2_indexOfSupplementary_4cfef RJ2 (some .int) n0 sl0 3 67) {out : Int32 × Mm} (hE : Ends x n0 sl0 (some (pI out.1)) out.2) (hn : xn x = 7) (fu : Nat)   (a0 : Option Nat) (a1 : Int32) (a2 : Int32) (a3 : Int32)  (M : Mm) (h : fJ2_indexOfSupplementary_4cfef fu  a0 a1 a2 a3 M = some out) : Gw x M 0 [(0, pR a0), (1, pI a1), (2, pI a2), (3, pI a3)] [] := by
  unfold fJ2_indexOfSupplementary_4cfef at h
  refine g_iload_n X (pc := 0) 1 rfl rfl dJ2_indexOfSupplementary_4cfef_0 ?_
  obtain ⟨v2, M1, eM1, h⟩ := b2d h
  refine g_callS X (pc := 1) (M' := M1) (ro := some (pI v2)) (as := [pI a1]) (as' := [pI a1]) (st := []) (ctJ11_isValidCodePoint_9a6ad _ _ _ _ _ _ fu  a1 M _ eM1) tb_1316 tb_1314 tb_1315 tb_25 hyJ11_isValidCodePoint_9a6ad rfl rfl ⟨by decide, by decide⟩ (Nat.le_of_ble_eq_true rfl) dJ2_indexOfSupplementary_4cfef_1 ?_
  refine g_if_eq X (pc := 4) (tgt := 69) dJ2_indexOfSupplementary_4cfef_4 (by decide) (fun hc => ?_) (fun hc => ?_)
  · have h := (if_pos hc).symm.trans h
    refine g_iconst X (pc := 69) (v := (-1)) dJ2_indexOfSupplementary_4cfef_69 (by decide) ?_
    obtain rfl := Option.some.inj h
    exact g_ireturn X hE dJ2_indexOfSupplementary_4cfef_70
  · have h := (if_neg hc).symm.trans h
    refine g_iload_n X (pc := 7) 1 rfl rfl dJ2_indexOfSupplementary_4cfef_7 ?_
    obtain ⟨v4, M3, eM3, h⟩ := b2d h
    refine g_callS X (pc := 8) (M' := M3) (ro := some (pI v4)) (as := [pI a1]) (as' := [pI a1]) (st := []) (ctJ11_highSurrogate_5068e _ _ _ _ _ _ fu  a1 M1 _ eM3) tb_1319 tb_1317 tb_1318 tb_25 hyJ11_highSurrogate_5068e rfl rfl ⟨by decide, by decide⟩ (Nat.le_of_ble_eq_true rfl) dJ2_indexOfSupplementary_4cfef_8 ?_
    refine g_istore X (pc := 11) [(4, pI v4), (0, pR a0), (1, pI a1), (2, pI a2), (3, pI a3)] (lt_n hn (by decide)) rfl dJ2_indexOfSupplementary_4cfef_11 ?_
    refine g_iload_n X (pc := 13) 2 rfl rfl dJ2_indexOfSupplementary_4cfef_13 ?_
    obtain ⟨v6, M5, eM5, h⟩ := b2d h
    refine g_callS X (pc := 14) (M' := M5) (ro := some (pI v6)) (as := [pI a1]) (as' := [pI a1]) (st := []) (ctJ11_lowSurrogate_5068e _ _ _ _ _ _ fu  a1 M3 _ eM5) tb_1323 tb_1321 tb_1322 tb_25 hyJ11_lowSurrogate_5068e rfl rfl ⟨by decide, by decide⟩ (Nat.le_of_ble_eq_true rfl) dJ2_indexOfSupplementary_4cfef_14 ?_
    refine g_istore X (pc := 17) [(5, pI v6), (4, pI v4), (0, pR a0), (1, pI a1), (2, pI a2), (3, pI a3)] (lt_n hn (by decide)) rfl dJ2_indexOfSupplementary_4cfef_17 ?_
    refine g_iload_n X (pc := 19) 4 rfl rfl dJ2_indexOfSupplementary_4cfef_19 ?_
    refine g_iload_n X (pc := 20) 5 rfl rfl dJ2_indexOfSupplementary_4cfef_20 ?_
    refine g_aload_n X (pc := 21) 2 rfl rfl dJ2_indexOfSupplementary_4cfef_21 ?_
    obtain ⟨M7, eM7, h⟩ := bd h
    refine g_callS X (pc := 22) (M' := M7) (ro := none) (as := [pI a2, pI a3, pR a0]) (as' := [pR a0, pI a3, pI a2]) (st := []) (ctJ2_checkBoundsBeginEnd_d044e _ _ _ _ _ _ fu  a2 a3 a0 M5 _ eM7) tb_1301 tb_1299 tb_1300 tb_24 hyJ2_checkBoundsBeginEnd_d044e rfl rfl ⟨by decide, by decide⟩ (Nat.le_of_ble_eq_true rfl) dJ2_indexOfSupplementary_4cfef_22 ?_
    refine g_iload_n X (pc := 25) 4 rfl rfl dJ2_indexOfSupplementary_4cfef_25 ?_
    refine g_istore X (pc := 26) [(6, pI a2), (5, pI v6), (4, pI v4), (0, pR a0), (1, pI a1), (2, pI a2), (3, pI a3)] (lt_n hn (by decide)) rfl dJ2_indexOfSupplementary_4cfef_26 ?_
    refine g_sub [3, 6, 2, 1, 0] [(0, pR a0), (3, pI a3), (4, pI v4), (5, pI v6), (6, pI a2)] rfl ?_
    exact wJ2_indexOfSupplementary_4cfef_L28 X hE hn fu   fu a0 a3 v4 v6 a2 M7 h
theorem hyJ2_indexOfSupplementary_4cfef : yJ2_indexOfSupplementary_4cfef.cls ≠ "java/lang/invoke/MethodHandle" ∧ yJ2_indexOfSupplementary_4cfef.cls ≠ "java/lang/invoke/VarHandle" ∧ (parseMethodDescriptor yJ2_indexOfSupplementary_4cfef.desc).map (fun d => d.parameters.length) = some 4 := ⟨by decide +kernel, by decide +kernel, by decide +kernel⟩
theorem ctJ2_indexOfSupplementary_4cfef (l : Launch) (E : Nat → Nat) (D : va_G) (dA : Nat → ClassId) (lo : Nat) (H0 : Heap) (fu : Nat) (a0 : Option Nat) (a1 : Int32) (a2 : Int32) (a3 : Int32) (M : Mm) (out : Int32 × Mm) (h : fJ2_indexOfSupplementary_4cfef fu a0 a1 a2 a3 M = some out) : Ct l E D dA lo H0 yJ2_indexOfSupplementary_4cfef cJ2_indexOfSupplementary_4cfef 7 (some .int) 3 67 [pR a0, pI a1, pI a2, pI a3] M (some (pI out.1)) out.2 := by
  refine ct_of (by decide +kernel) (Nat.le_of_ble_eq_true rfl) ?_
  intro x hl he hd ha ho hh hn hin X hE
  exact wJ2_indexOfSupplementary_4cfef X hE hn fu a0 a1 a2 a3 M h
/-! java/lang/StringUTF16.indexOf([BIII)I -/
def fJ2_indexOf_4cfef (fu : Nat)  (a0 : Option Nat) (a1 : Int32) (a2 : Int32) (a3 : Int32)  (M : Mm) : Option (Int32 × Mm) :=
    (aL M 100 a0).bind fun v1 =>
    if (jmax a2 (0 : Int32)) < (jmin a3 (v1 >>> ((1 : Int32) &&& 31))) then (
    if (65536 : Int32) ≤ a1 then (
    b2 (fJ2_indexOfSupplementary_4cfef fu  a0 a1 (jmax a2 (0 : Int32)) (jmin a3 (v1 >>> ((1 : Int32) &&& 31))) M) fun v3 M2 =>
    some (v3, M2))
    else (
    b2 (fJ2_indexOfChar_4cfef fu  a0 a1 (jmax a2 (0 : Int32)) (jmin a3 (v1 >>> ((1 : Int32) &&& 31))) M) fun v5 M4 =>
    some (v5, M4)))
    else (
    some ((-1 : Int32), M))
theorem dJ2_indexOf_4cfef_0 : decode cJ2_indexOf_4cfef 0 = .ok (.iload_n 2, 1) := by decide +kernel
theorem dJ2_indexOf_4cfef_1 : decode cJ2_indexOf_4cfef 1 = .ok (.iconst 0, 1) := by decide +kernel
theorem dJ2_indexOf_4cfef_2 : decode cJ2_indexOf_4cfef 2 = .ok (.invokestatic 224, 3) := by decide +kernel
theorem dJ2_indexOf_4cfef_5 : decode cJ2_indexOf_4cfef 5 = .ok (.istore_n 2, 1) := by decide +kernel
theorem dJ2_indexOf_4cfef_6 : decode cJ2_indexOf_4cfef 6 = .ok (.iload_n 3, 1) := by decide +kernel
theorem dJ2_indexOf_4cfef_7 : decode cJ2_indexOf_4cfef 7 = .ok (.aload_n 0, 1) := by decide +kernel
theorem dJ2_indexOf_4cfef_8 : decode cJ2_indexOf_4cfef 8 = .ok (.arraylength, 1) := by decide +kernel
theorem dJ2_indexOf_4cfef_9 : decode cJ2_indexOf_4cfef 9 = .ok (.iconst 1, 1) := by decide +kernel
theorem dJ2_indexOf_4cfef_10 : decode cJ2_indexOf_4cfef 10 = .ok (.ishr, 1) := by decide +kernel
theorem dJ2_indexOf_4cfef_11 : decode cJ2_indexOf_4cfef 11 = .ok (.invokestatic 183, 3) := by decide +kernel
theorem dJ2_indexOf_4cfef_14 : decode cJ2_indexOf_4cfef 14 = .ok (.istore_n 3, 1) := by decide +kernel
theorem dJ2_indexOf_4cfef_15 : decode cJ2_indexOf_4cfef 15 = .ok (.iload_n 2, 1) := by decide +kernel
theorem dJ2_indexOf_4cfef_16 : decode cJ2_indexOf_4cfef 16 = .ok (.iload_n 3, 1) := by decide +kernel
theorem dJ2_indexOf_4cfef_17 : decode cJ2_indexOf_4cfef 17 = .ok (.if_icmp .lt 5, 3) := by decide +kernel
theorem dJ2_indexOf_4cfef_20 : decode cJ2_indexOf_4cfef 20 = .ok (.iconst (-1), 1) := by decide +kernel
theorem dJ2_indexOf_4cfef_21 : decode cJ2_indexOf_4cfef 21 = .ok (.ireturn, 1) := by decide +kernel
theorem dJ2_indexOf_4cfef_22 : decode cJ2_indexOf_4cfef 22 = .ok (.iload_n 1, 1) := by decide +kernel
theorem dJ2_indexOf_4cfef_23 : decode cJ2_indexOf_4cfef 23 = .ok (.ldc 227, 2) := by decide +kernel
theorem dJ2_indexOf_4cfef_25 : decode cJ2_indexOf_4cfef 25 = .ok (.if_icmp .ge 11, 3) := by decide +kernel
theorem dJ2_indexOf_4cfef_28 : decode cJ2_indexOf_4cfef 28 = .ok (.aload_n 0, 1) := by decide +kernel
theorem dJ2_indexOf_4cfef_29 : decode cJ2_indexOf_4cfef 29 = .ok (.iload_n 1, 1) := by decide +kernel
theorem dJ2_indexOf_4cfef_30 : decode cJ2_indexOf_4cfef 30 = .ok (.iload_n 2, 1) := by decide +kernel
theorem dJ2_indexOf_4cfef_31 : decode cJ2_indexOf_4cfef 31 = .ok (.iload_n 3, 1) := by decide +kernel
theorem dJ2_indexOf_4cfef_32 : decode cJ2_indexOf_4cfef 32 = .ok (.invokestatic 228, 3) := by decide +kernel
theorem dJ2_indexOf_4cfef_35 : decode cJ2_indexOf_4cfef 35 = .ok (.ireturn, 1) := by decide +kernel
theorem dJ2_indexOf_4cfef_36 : decode cJ2_indexOf_4cfef 36 = .ok (.aload_n 0, 1) := by decide +kernel
theorem dJ2_indexOf_4cfef_37 : decode cJ2_indexOf_4cfef 37 = .ok (.iload_n 1, 1) := by decide +kernel
theorem dJ2_indexOf_4cfef_38 : decode cJ2_indexOf_4cfef 38 = .ok (.iload_n 2, 1) := by decide +kernel
theorem dJ2_indexOf_4cfef_39 : decode cJ2_indexOf_4cfef 39 = .ok (.iload_n 3, 1) := by decide +kernel
theorem dJ2_indexOf_4cfef_40 : decode cJ2_indexOf_4cfef 40 = .ok (.invokestatic 232, 3) := by decide +kernel
theorem dJ2_indexOf_4cfef_43 : decode cJ2_indexOf_4cfef 43 = .ok (.ireturn, 1) := by decide +kernel
theorem wJ2_indexOf_4cfef {x : GX} {n0 sl0 : Nat} (X : Cx x cJ2_indexOf_4cfef RJ2 (some .int) n0 sl0 4 93) {out : Int32 × Mm} (hE : Ends x n0 sl0 (some (pI out.1)) out.2) (hn : xn x = 4) (fu : Nat)   (a0 : Option Nat) (a1 : Int32) (a2 : Int32) (a3 : Int32)  (M : Mm) (h : fJ2_indexOf_4cfef fu  a0 a1 a2 a3 M = some out) : Gw x M 0 [(0, pR a0), (1, pI a1), (2, pI a2), (3, pI a3)] [] := by
  unfold fJ2_indexOf_4cfef at h
  refine g_iload_n X (pc := 0) 2 rfl rfl dJ2_indexOf_4cfef_0 ?_
  refine g_iconst X (pc := 1) (v := 0) dJ2_indexOf_4cfef_1 (by decide) ?_
  refine g_mmax X (pc := 2) tb_1293 tb_405 tb_13 tb_406 ⟨by decide, Nat.le_of_ble_eq_true rfl⟩ dJ2_indexOf_4cfef_2 ?_
  refine g_istore_n X (pc := 5) [(2, pI (jmax a2 (0 : Int32))), (0, pR a0), (1, pI a1), (3, pI a3)] rfl (lt_n hn (by decide)) rfl dJ2_indexOf_4cfef_5 ?_
  refine g_iload_n X (pc := 6) 3 rfl rfl dJ2_indexOf_4cfef_6 ?_
  refine g_aload_n X (pc := 7) 1 rfl rfl dJ2_indexOf_4cfef_7 ?_
  obtain ⟨v1, ev1, h⟩ := bd h
  refine g_alen X (pc := 8) (k := 0) rfl (by decide) ev1 dJ2_indexOf_4cfef_8 ?_
  refine g_iconst X (pc := 9) (v := 1) dJ2_indexOf_4cfef_9 (by decide) ?_
  refine g_ishr X (pc := 10) dJ2_indexOf_4cfef_10 ?_
  refine g_mmin X (pc := 11) tb_1294 tb_348 tb_13 tb_349 ⟨by decide, Nat.le_of_ble_eq_true rfl⟩ dJ2_indexOf_4cfef_11 ?_
  refine g_istore_n X (pc := 14) [(3, pI (jmin a3 (v1 >>> ((1 : Int32) &&& 31)))), (2, pI (jmax a2 (0 : Int32))), (0, pR a0), (1, pI a1)] rfl (lt_n hn (by decide)) rfl dJ2_indexOf_4cfef_14 ?_
  refine g_iload_n X (pc := 15) 1 rfl rfl dJ2_indexOf_4cfef_15 ?_
  refine g_iload_n X (pc := 16) 0 rfl rfl dJ2_indexOf_4cfef_16 ?_
  refine g_icmp_lt X (pc := 17) (tgt := 22) dJ2_indexOf_4cfef_17 (by decide) (fun hc => ?_) (fun hc => ?_)
  · have h := (if_pos hc).symm.trans h
    refine g_iload_n X (pc := 22) 3 rfl rfl dJ2_indexOf_4cfef_22 ?_
    refine g_ldc X (pc := 23) tb_1295 dJ2_indexOf_4cfef_23 ?_
    refine g_icmp_ge X (pc := 25) (tgt := 36) dJ2_indexOf_4cfef_25 (by decide) (fun hc => ?_) (fun hc => ?_)
    · have h := (if_pos hc).symm.trans h
      refine g_aload_n X (pc := 36) 2 rfl rfl dJ2_indexOf_4cfef_36 ?_
      refine g_iload_n X (pc := 37) 3 rfl rfl dJ2_indexOf_4cfef_37 ?_
      refine g_iload_n X (pc := 38) 1 rfl rfl dJ2_indexOf_4cfef_38 ?_
      refine g_iload_n X (pc := 39) 0 rfl rfl dJ2_indexOf_4cfef_39 ?_
      obtain ⟨v3, M2, eM2, h⟩ := b2d h
      refine g_callS X (pc := 40) (M' := M2) (ro := some (pI v3)) (as := [pR a0, pI a1, pI (jmax a2 (0 : Int32)), pI (jmin a3 (v1 >>> ((1 : Int32) &&& 31)))]) (as' := [pI (jmin a3 (v1 >>> ((1 : Int32) &&& 31))), pI (jmax a2 (0 : Int32)), pI a1, pR a0]) (st := []) (ctJ2_indexOfSupplementary_4cfef _ _ _ _ _ _ fu  a0 a1 (jmax a2 (0 : Int32)) (jmin a3 (v1 >>> ((1 : Int32) &&& 31))) M _ eM2) tb_1313 tb_1311 tb_1312 tb_24 hyJ2_indexOfSupplementary_4cfef rfl rfl ⟨by decide, by decide⟩ (Nat.le_of_ble_eq_true rfl) dJ2_indexOf_4cfef_40 ?_
      obtain rfl := Option.some.inj h
      exact g_ireturn X hE dJ2_indexOf_4cfef_43
    · have h := (if_neg hc).symm.trans h
      refine g_aload_n X (pc := 28) 2 rfl rfl dJ2_indexOf_4cfef_28 ?_
      refine g_iload_n X (pc := 29) 3 rfl rfl dJ2_indexOf_4cfef_29 ?_
      refine g_iload_n X (pc := 30) 1 rfl rfl dJ2_indexOf_4cfef_30 ?_
      refine g_iload_n X (pc := 31) 0 rfl rfl dJ2_indexOf_4cfef_31 ?_
      obtain ⟨v5, M4, eM4, h⟩ := b2d h
      refine g_callS X (pc := 32) (M' := M4) (ro := some (pI v5)) (as := [pR a0, pI a1, pI (jmax a2 (0 : Int32)), pI (jmin a3 (v1 >>> ((1 : Int32) &&& 31)))]) (as' := [pI (jmin a3 (v1 >>> ((1 : Int32) &&& 31))), pI (jmax a2 (0 : Int32)), pI a1, pR a0]) (st := []) (ctJ2_indexOfChar_4cfef _ _ _ _ _ _ fu  a0 a1 (jmax a2 (0 : Int32)) (jmin a3 (v1 >>> ((1 : Int32) &&& 31))) M _ eM4) tb_1298 tb_1296 tb_1297 tb_24 hyJ2_indexOfChar_4cfef rfl rfl ⟨by decide, by decide⟩ (Nat.le_of_ble_eq_true rfl) dJ2_indexOf_4cfef_32 ?_
      obtain rfl := Option.some.inj h
      exact g_ireturn X hE dJ2_indexOf_4cfef_35
  · have h := (if_neg hc).symm.trans h
    refine g_iconst X (pc := 20) (v := (-1)) dJ2_indexOf_4cfef_20 (by decide) ?_
    obtain rfl := Option.some.inj h
    exact g_ireturn X hE dJ2_indexOf_4cfef_21
theorem hyJ2_indexOf_4cfef : yJ2_indexOf_4cfef.cls ≠ "java/lang/invoke/MethodHandle" ∧ yJ2_indexOf_4cfef.cls ≠ "java/lang/invoke/VarHandle" ∧ (parseMethodDescriptor yJ2_indexOf_4cfef.desc).map (fun d => d.parameters.length) = some 4 := ⟨by decide +kernel, by decide +kernel, by decide +kernel⟩
theorem ctJ2_indexOf_4cfef (l : Launch) (E : Nat → Nat) (D : va_G) (dA : Nat → ClassId) (lo : Nat) (H0 : Heap) (fu : Nat) (a0 : Option Nat) (a1 : Int32) (a2 : Int32) (a3 : Int32) (M : Mm) (out : Int32 × Mm) (h : fJ2_indexOf_4cfef fu a0 a1 a2 a3 M = some out) : Ct l E D dA lo H0 yJ2_indexOf_4cfef cJ2_indexOf_4cfef 4 (some .int) 4 93 [pR a0, pI a1, pI a2, pI a3] M (some (pI out.1)) out.2 := by
  refine ct_of (by decide +kernel) (Nat.le_of_ble_eq_true rfl) ?_
  intro x hl he hd ha ho hh hn hin X hE
  exact wJ2_indexOf_4cfef X hE hn fu a0 a1 a2 a3 M h
/-! java/lang/String.indexOf(II)I -/
def fJ0_indexOf_7cf53 (fu : Nat)  (a0 : Nat) (a1 : Int32) (a2 : Int32)  (M : Mm) : Option (Int32 × Mm) :=
    (rcS (some a0)).bind fun q1 =>
    b2 (fJ0_isLatin1_aae02 fu q1  M) fun v3 M2 =>
    if v3 = 0 then (
    (gSv (some a0)).bind fun v4 =>
    (rcS (some a0)).bind fun q5 =>
    b2 (fJ0_length_8abf5 fu q5  M2) fun v7 M6 =>
    b2 (fJ2_indexOf_4cfef fu  v4 a1 a2 v7 M6) fun v9 M8 =>
    some (v9, M8))
    else (
    (gSv (some a0)).bind fun v10 =>
    (rcS (some a0)).bind fun q11 =>
    b2 (fJ0_length_8abf5 fu q11  M2) fun v13 M12 =>
    b2 (fJ1_indexOf_4cfef fu  v10 a1 a2 v13 M12) fun v15 M14 =>
    some (v15, M14))
theorem dJ0_indexOf_7cf53_0 : decode cJ0_indexOf_7cf53 0 = .ok (.aload_n 0, 1) := by decide +kernel
theorem dJ0_indexOf_7cf53_1 : decode cJ0_indexOf_7cf53 1 = .ok (.invokevirtual 492, 3) := by decide +kernel
theorem dJ0_indexOf_7cf53_4 : decode cJ0_indexOf_7cf53 4 = .ok (.ifCond .eq 19, 3) := by decide +kernel
theorem dJ0_indexOf_7cf53_7 : decode cJ0_indexOf_7cf53 7 = .ok (.aload_n 0, 1) := by decide +kernel
theorem dJ0_indexOf_7cf53_8 : decode cJ0_indexOf_7cf53 8 = .ok (.getfield 9, 3) := by decide +kernel
theorem dJ0_indexOf_7cf53_11 : decode cJ0_indexOf_7cf53 11 = .ok (.iload_n 1, 1) := by decide +kernel
theorem dJ0_indexOf_7cf53_12 : decode cJ0_indexOf_7cf53 12 = .ok (.iload_n 2, 1) := by decide +kernel
theorem dJ0_indexOf_7cf53_13 : decode cJ0_indexOf_7cf53 13 = .ok (.aload_n 0, 1) := by decide +kernel
theorem dJ0_indexOf_7cf53_14 : decode cJ0_indexOf_7cf53 14 = .ok (.invokevirtual 505, 3) := by decide +kernel
theorem dJ0_indexOf_7cf53_17 : decode cJ0_indexOf_7cf53 17 = .ok (.invokestatic 637, 3) := by decide +kernel
theorem dJ0_indexOf_7cf53_20 : decode cJ0_indexOf_7cf53 20 = .ok (.goto 16, 3) := by decide +kernel
theorem dJ0_indexOf_7cf53_23 : decode cJ0_indexOf_7cf53 23 = .ok (.aload_n 0, 1) := by decide +kernel
theorem dJ0_indexOf_7cf53_24 : decode cJ0_indexOf_7cf53 24 = .ok (.getfield 9, 3) := by decide +kernel
theorem dJ0_indexOf_7cf53_27 : decode cJ0_indexOf_7cf53 27 = .ok (.iload_n 1, 1) := by decide +kernel
theorem dJ0_indexOf_7cf53_28 : decode cJ0_indexOf_7cf53 28 = .ok (.iload_n 2, 1) := by decide +kernel
theorem dJ0_indexOf_7cf53_29 : decode cJ0_indexOf_7cf53 29 = .ok (.aload_n 0, 1) := by decide +kernel
theorem dJ0_indexOf_7cf53_30 : decode cJ0_indexOf_7cf53 30 = .ok (.invokevirtual 505, 3) := by decide +kernel
theorem dJ0_indexOf_7cf53_33 : decode cJ0_indexOf_7cf53 33 = .ok (.invokestatic 640, 3) := by decide +kernel
theorem dJ0_indexOf_7cf53_36 : decode cJ0_indexOf_7cf53 36 = .ok (.ireturn, 1) := by decide +kernel
theorem wJ0_indexOf_7cf53 {x : GX} {n0 sl0 : Nat} (X : Cx x cJ0_indexOf_7cf53 RJ0 (some .int) n0 sl0 5 116) {out : Int32 × Mm} (hE : Ends x n0 sl0 (some (pI out.1)) out.2) (hn : xn x = 3) (fu : Nat)   (a0 : Nat) (a1 : Int32) (a2 : Int32)  (M : Mm) (h : fJ0_indexOf_7cf53 fu  a0 a1 a2 M = some out) : Gw x M 0 [(0, pR (some a0)), (1, pI a1), (2, pI a2)] [] := by
  unfold fJ0_indexOf_7cf53 at h
  refine g_aload_n X (pc := 0) 0 rfl rfl dJ0_indexOf_7cf53_0 ?_
  obtain ⟨q1, eq1, h⟩ := bd h
  obtain ⟨v3, M2, eM2, h⟩ := b2d h
  refine g_callVS X (pc := 1) (M' := M2) (ro := some (pI v3)) (as := []) (as' := []) (st := []) eq1 (ctJ0_isLatin1_aae02 _ _ _ _ _ _ fu q1  M _ eM2) tb_1228 tb_1225 tb_1226 tb_1227 tb_21 ⟨rfl, hyJ0_isLatin1_aae02⟩ rfl rfl ⟨by decide, by decide⟩ (Nat.le_of_ble_eq_true rfl) dJ0_indexOf_7cf53_1 ?_
  refine g_if_eq X (pc := 4) (tgt := 23) dJ0_indexOf_7cf53_4 (by decide) (fun hc => ?_) (fun hc => ?_)
  · have h := (if_pos hc).symm.trans h
    refine g_aload_n X (pc := 23) 0 rfl rfl dJ0_indexOf_7cf53_23 ?_
    obtain ⟨v4, ev4, h⟩ := bd h
    refine g_strV X (pc := 24) ev4 tb_2547 dJ0_indexOf_7cf53_24 ?_
    refine g_iload_n X (pc := 27) 1 rfl rfl dJ0_indexOf_7cf53_27 ?_
    refine g_iload_n X (pc := 28) 2 rfl rfl dJ0_indexOf_7cf53_28 ?_
    refine g_aload_n X (pc := 29) 0 rfl rfl dJ0_indexOf_7cf53_29 ?_
    obtain ⟨q5, eq5, h⟩ := bd h
    obtain ⟨v7, M6, eM6, h⟩ := b2d h
    refine g_callVS X (pc := 30) (M' := M6) (ro := some (pI v7)) (as := []) (as' := []) (st := [pI a2, pI a1, pR v4]) eq5 (ctJ0_length_8abf5 _ _ _ _ _ _ fu q5  M2 _ eM6) tb_1214 tb_1278 tb_1212 tb_1213 tb_21 ⟨rfl, hyJ0_length_8abf5⟩ rfl rfl ⟨by decide, by decide⟩ (Nat.le_of_ble_eq_true rfl) dJ0_indexOf_7cf53_30 ?_
    obtain ⟨v9, M8, eM8, h⟩ := b2d h
    refine g_callS X (pc := 33) (M' := M8) (ro := some (pI v9)) (as := [pR v4, pI a1, pI a2, pI v7]) (as' := [pI v7, pI a2, pI a1, pR v4]) (st := []) (ctJ2_indexOf_4cfef _ _ _ _ _ _ fu  v4 a1 a2 v7 M6 _ eM8) tb_1292 tb_1290 tb_1291 tb_24 hyJ2_indexOf_4cfef rfl rfl ⟨by decide, by decide⟩ (Nat.le_of_ble_eq_true rfl) dJ0_indexOf_7cf53_33 ?_
    obtain rfl := Option.some.inj h
    exact g_ireturn X hE dJ0_indexOf_7cf53_36
  · have h := (if_neg hc).symm.trans h
    refine g_aload_n X (pc := 7) 0 rfl rfl dJ0_indexOf_7cf53_7 ?_
    obtain ⟨v10, ev10, h⟩ := bd h
    refine g_strV X (pc := 8) ev10 tb_2547 dJ0_indexOf_7cf53_8 ?_
    refine g_iload_n X (pc := 11) 1 rfl rfl dJ0_indexOf_7cf53_11 ?_
    refine g_iload_n X (pc := 12) 2 rfl rfl dJ0_indexOf_7cf53_12 ?_
    refine g_aload_n X (pc := 13) 0 rfl rfl dJ0_indexOf_7cf53_13 ?_
    obtain ⟨q11, eq11, h⟩ := bd h
    obtain ⟨v13, M12, eM12, h⟩ := b2d h
    refine g_callVS X (pc := 14) (M' := M12) (ro := some (pI v13)) (as := []) (as' := []) (st := [pI a2, pI a1, pR v10]) eq11 (ctJ0_length_8abf5 _ _ _ _ _ _ fu q11  M2 _ eM12) tb_1214 tb_1278 tb_1212 tb_1213 tb_21 ⟨rfl, hyJ0_length_8abf5⟩ rfl rfl ⟨by decide, by decide⟩ (Nat.le_of_ble_eq_true rfl) dJ0_indexOf_7cf53_14 ?_
    obtain ⟨v15, M14, eM14, h⟩ := b2d h
    refine g_callS X (pc := 17) (M' := M14) (ro := some (pI v15)) (as := [pR v10, pI a1, pI a2, pI v13]) (as' := [pI v13, pI a2, pI a1, pR v10]) (st := []) (ctJ1_indexOf_4cfef _ _ _ _ _ _ fu  v10 a1 a2 v13 M12 _ eM14) tb_1281 tb_1279 tb_1280 tb_22 hyJ1_indexOf_4cfef rfl rfl ⟨by decide, by decide⟩ (Nat.le_of_ble_eq_true rfl) dJ0_indexOf_7cf53_17 ?_
    refine g_goto X (pc := 20) (tgt := 36) dJ0_indexOf_7cf53_20 (by decide) ?_
    obtain rfl := Option.some.inj h
    exact g_ireturn X hE dJ0_indexOf_7cf53_36
theorem hyJ0_indexOf_7cf53 : yJ0_indexOf_7cf53.cls ≠ "java/lang/invoke/MethodHandle" ∧ yJ0_indexOf_7cf53.cls ≠ "java/lang/invoke/VarHandle" ∧ (parseMethodDescriptor yJ0_indexOf_7cf53.desc).map (fun d => d.parameters.length) = some 2 := ⟨by decide +kernel, by decide +kernel, by decide +kernel⟩
theorem ctJ0_indexOf_7cf53 (l : Launch) (E : Nat → Nat) (D : va_G) (dA : Nat → ClassId) (lo : Nat) (H0 : Heap) (fu : Nat) (a0 : Nat) (a1 : Int32) (a2 : Int32) (M : Mm) (out : Int32 × Mm) (h : fJ0_indexOf_7cf53 fu a0 a1 a2 M = some out) : Ct l E D dA lo H0 yJ0_indexOf_7cf53 cJ0_indexOf_7cf53 3 (some .int) 5 116 [pR (some a0), pI a1, pI a2] M (some (pI out.1)) out.2 := by
  refine ct_of (by decide +kernel) (Nat.le_of_ble_eq_true rfl) ?_
  intro x hl he hd ha ho hh hn hin X hE
  exact wJ0_indexOf_7cf53 X hE hn fu a0 a1 a2 M h
/-! java/lang/String.indexOf(I)I -/
def fJ0_indexOf_0f7a4 (fu : Nat)  (a0 : Nat) (a1 : Int32)  (M : Mm) : Option (Int32 × Mm) :=
    (rcS (some a0)).bind fun q1 =>
    b2 (fJ0_indexOf_7cf53 fu q1 a1 (0 : Int32) M) fun v3 M2 =>
    some (v3, M2)
theorem dJ0_indexOf_0f7a4_0 : decode cJ0_indexOf_0f7a4 0 = .ok (.aload_n 0, 1) := by decide +kernel
theorem dJ0_indexOf_0f7a4_1 : decode cJ0_indexOf_0f7a4 1 = .ok (.iload_n 1, 1) := by decide +kernel
theorem dJ0_indexOf_0f7a4_2 : decode cJ0_indexOf_0f7a4 2 = .ok (.iconst 0, 1) := by decide +kernel
theorem dJ0_indexOf_0f7a4_3 : decode cJ0_indexOf_0f7a4 3 = .ok (.invokevirtual 633, 3) := by decide +kernel
theorem dJ0_indexOf_0f7a4_6 : decode cJ0_indexOf_0f7a4 6 = .ok (.ireturn, 1) := by decide +kernel
theorem wJ0_indexOf_0f7a4 {x : GX} {n0 sl0 : Nat} (X : Cx x cJ0_indexOf_0f7a4 RJ0 (some .int) n0 sl0 6 138) {out : Int32 × Mm} (hE : Ends x n0 sl0 (some (pI out.1)) out.2) (hn : xn x = 2) (fu : Nat)   (a0 : Nat) (a1 : Int32)  (M : Mm) (h : fJ0_indexOf_0f7a4 fu  a0 a1 M = some out) : Gw x M 0 [(0, pR (some a0)), (1, pI a1)] [] := by
  unfold fJ0_indexOf_0f7a4 at h
  refine g_aload_n X (pc := 0) 0 rfl rfl dJ0_indexOf_0f7a4_0 ?_
  refine g_iload_n X (pc := 1) 1 rfl rfl dJ0_indexOf_0f7a4_1 ?_
  refine g_iconst X (pc := 2) (v := 0) dJ0_indexOf_0f7a4_2 (by decide) ?_
  obtain ⟨q1, eq1, h⟩ := bd h
  obtain ⟨v3, M2, eM2, h⟩ := b2d h
  refine g_callVS X (pc := 3) (M' := M2) (ro := some (pI v3)) (as := [pI a1, pI (0 : Int32)]) (as' := [pI (0 : Int32), pI a1]) (st := []) eq1 (ctJ0_indexOf_7cf53 _ _ _ _ _ _ fu q1 a1 (0 : Int32) M _ eM2) tb_1277 tb_1274 tb_1275 tb_1276 tb_21 ⟨rfl, hyJ0_indexOf_7cf53⟩ rfl rfl ⟨by decide, by decide⟩ (Nat.le_of_ble_eq_true rfl) dJ0_indexOf_0f7a4_3 ?_
  obtain rfl := Option.some.inj h
  exact g_ireturn X hE dJ0_indexOf_0f7a4_6
theorem hyJ0_indexOf_0f7a4 : yJ0_indexOf_0f7a4.cls ≠ "java/lang/invoke/MethodHandle" ∧ yJ0_indexOf_0f7a4.cls ≠ "java/lang/invoke/VarHandle" ∧ (parseMethodDescriptor yJ0_indexOf_0f7a4.desc).map (fun d => d.parameters.length) = some 1 := ⟨by decide +kernel, by decide +kernel, by decide +kernel⟩
theorem ctJ0_indexOf_0f7a4 (l : Launch) (E : Nat → Nat) (D : va_G) (dA : Nat → ClassId) (lo : Nat) (H0 : Heap) (fu : Nat) (a0 : Nat) (a1 : Int32) (M : Mm) (out : Int32 × Mm) (h : fJ0_indexOf_0f7a4 fu a0 a1 M = some out) : Ct l E D dA lo H0 yJ0_indexOf_0f7a4 cJ0_indexOf_0f7a4 2 (some .int) 6 138 [pR (some a0), pI a1] M (some (pI out.1)) out.2 := by
  refine ct_of (by decide +kernel) (Nat.le_of_ble_eq_true rfl) ?_
  intro x hl he hd ha ho hh hn hin X hE
  exact wJ0_indexOf_0f7a4 X hE hn fu a0 a1 M h
/-! WebHost$Requests.isNameCode(I)Z -/
def fX7_isNameCode_L38 (fu : Nat)  (a0 : Int32)  (M : Mm) : Option (Int32 × Mm) :=
    if (128 : Int32) ≤ a0 then (
    rN .boolean (0 : Int32) M)
    else (
    (rcS (some 4)).bind fun q1 =>
    b2 (fJ0_indexOf_0f7a4 fu q1 (i2c a0) M) fun v3 M2 =>
    if v3 < 0 then (
    rN .boolean (0 : Int32) M2)
    else (
    rN .boolean (1 : Int32) M2))
def fX7_isNameCode_L24 (fu : Nat)  (a0 : Int32)  (M : Mm) : Option (Int32 × Mm) :=
    if a0 < (48 : Int32) then (
    fX7_isNameCode_L38 fu  a0 M)
    else (
    if (57 : Int32) < a0 then (
    fX7_isNameCode_L38 fu  a0 M)
    else (
    rN .boolean (1 : Int32) M))
def fX7_isNameCode_L12 (fu : Nat)  (a0 : Int32)  (M : Mm) : Option (Int32 × Mm) :=
    if a0 < (65 : Int32) then (
    fX7_isNameCode_L24 fu  a0 M)
    else (
    if a0 ≤ (90 : Int32) then (
    rN .boolean (1 : Int32) M)
    else (
    fX7_isNameCode_L24 fu  a0 M))
def fX7_isNameCode (fu : Nat)  (a0 : Int32)  (M : Mm) : Option (Int32 × Mm) :=
    if a0 < (97 : Int32) then (
    fX7_isNameCode_L12 fu  a0 M)
    else (
    if a0 ≤ (122 : Int32) then (
    rN .boolean (1 : Int32) M)
    else (
    fX7_isNameCode_L12 fu  a0 M))
theorem dX7_isNameCode_0 : decode cX7_isNameCode 0 = .ok (.iload_n 0, 1) := by decide +kernel
theorem dX7_isNameCode_1 : decode cX7_isNameCode 1 = .ok (.bipush 97, 2) := by decide +kernel
theorem dX7_isNameCode_3 : decode cX7_isNameCode 3 = .ok (.if_icmp .lt 9, 3) := by decide +kernel
theorem dX7_isNameCode_6 : decode cX7_isNameCode 6 = .ok (.iload_n 0, 1) := by decide +kernel
theorem dX7_isNameCode_7 : decode cX7_isNameCode 7 = .ok (.bipush 122, 2) := by decide +kernel
theorem dX7_isNameCode_9 : decode cX7_isNameCode 9 = .ok (.if_icmp .le 27, 3) := by decide +kernel
theorem dX7_isNameCode_12 : decode cX7_isNameCode 12 = .ok (.iload_n 0, 1) := by decide +kernel
theorem dX7_isNameCode_13 : decode cX7_isNameCode 13 = .ok (.bipush 65, 2) := by decide +kernel
theorem dX7_isNameCode_15 : decode cX7_isNameCode 15 = .ok (.if_icmp .lt 9, 3) := by decide +kernel
theorem dX7_isNameCode_18 : decode cX7_isNameCode 18 = .ok (.iload_n 0, 1) := by decide +kernel
theorem dX7_isNameCode_19 : decode cX7_isNameCode 19 = .ok (.bipush 90, 2) := by decide +kernel
theorem dX7_isNameCode_21 : decode cX7_isNameCode 21 = .ok (.if_icmp .le 15, 3) := by decide +kernel
theorem dX7_isNameCode_24 : decode cX7_isNameCode 24 = .ok (.iload_n 0, 1) := by decide +kernel
theorem dX7_isNameCode_25 : decode cX7_isNameCode 25 = .ok (.bipush 48, 2) := by decide +kernel
theorem dX7_isNameCode_27 : decode cX7_isNameCode 27 = .ok (.if_icmp .lt 11, 3) := by decide +kernel
theorem dX7_isNameCode_30 : decode cX7_isNameCode 30 = .ok (.iload_n 0, 1) := by decide +kernel
theorem dX7_isNameCode_31 : decode cX7_isNameCode 31 = .ok (.bipush 57, 2) := by decide +kernel
theorem dX7_isNameCode_33 : decode cX7_isNameCode 33 = .ok (.if_icmp .gt 5, 3) := by decide +kernel
theorem dX7_isNameCode_36 : decode cX7_isNameCode 36 = .ok (.iconst 1, 1) := by decide +kernel
theorem dX7_isNameCode_37 : decode cX7_isNameCode 37 = .ok (.ireturn, 1) := by decide +kernel
theorem dX7_isNameCode_38 : decode cX7_isNameCode 38 = .ok (.iload_n 0, 1) := by decide +kernel
theorem dX7_isNameCode_39 : decode cX7_isNameCode 39 = .ok (.sipush 128, 3) := by decide +kernel
theorem dX7_isNameCode_42 : decode cX7_isNameCode 42 = .ok (.if_icmp .ge 17, 3) := by decide +kernel
theorem dX7_isNameCode_45 : decode cX7_isNameCode 45 = .ok (.ldc 175, 2) := by decide +kernel
theorem dX7_isNameCode_47 : decode cX7_isNameCode 47 = .ok (.iload_n 0, 1) := by decide +kernel
theorem dX7_isNameCode_48 : decode cX7_isNameCode 48 = .ok (.i2c, 1) := by decide +kernel
theorem dX7_isNameCode_49 : decode cX7_isNameCode 49 = .ok (.invokevirtual 177, 3) := by decide +kernel
theorem dX7_isNameCode_52 : decode cX7_isNameCode 52 = .ok (.ifCond .lt 7, 3) := by decide +kernel
theorem dX7_isNameCode_55 : decode cX7_isNameCode 55 = .ok (.iconst 1, 1) := by decide +kernel
theorem dX7_isNameCode_56 : decode cX7_isNameCode 56 = .ok (.goto 4, 3) := by decide +kernel
theorem dX7_isNameCode_59 : decode cX7_isNameCode 59 = .ok (.iconst 0, 1) := by decide +kernel
theorem dX7_isNameCode_60 : decode cX7_isNameCode 60 = .ok (.ireturn, 1) := by decide +kernel
theorem wX7_isNameCode_L38 {x : GX} {n0 sl0 : Nat} (X : Cx x cX7_isNameCode RX7 (some .boolean) n0 sl0 7 159) {out : Int32 × Mm} (hE : Ends x n0 sl0 (some (pI out.1)) out.2) (hn : xn x = 1) (fu : Nat)   (a0 : Int32)  (M : Mm) (h : fX7_isNameCode_L38 fu  a0 M = some out) : Gw x M 38 [(0, pI a0)] [] := by
  unfold fX7_isNameCode_L38 at h
  refine g_iload_n X (pc := 38) 0 rfl rfl dX7_isNameCode_38 ?_
  refine g_sipush X (pc := 39) (v := 128) dX7_isNameCode_39 (by decide) ?_
  refine g_icmp_ge X (pc := 42) (tgt := 59) dX7_isNameCode_42 (by decide) (fun hc => ?_) (fun hc => ?_)
  · have h := (if_pos hc).symm.trans h
    refine g_iconst X (pc := 59) (v := 0) dX7_isNameCode_59 (by decide) ?_
    obtain ⟨hz, rfl⟩ := rN_some h
    exact g_nreturn X rfl hz hE dX7_isNameCode_60
  · have h := (if_neg hc).symm.trans h
    refine g_ldcS X (pc := 45) (List.mem_of_getElem? (i := 4) rfl) dX7_isNameCode_45 ?_
    refine g_iload_n X (pc := 47) 0 rfl rfl dX7_isNameCode_47 ?_
    refine g_i2c X (pc := 48) dX7_isNameCode_48 ?_
    obtain ⟨q1, eq1, h⟩ := bd h
    obtain ⟨v3, M2, eM2, h⟩ := b2d h
    refine g_callVS X (pc := 49) (M' := M2) (ro := some (pI v3)) (as := [pI (i2c a0)]) (as' := [pI (i2c a0)]) (st := []) eq1 (ctJ0_indexOf_0f7a4 _ _ _ _ _ _ fu q1 (i2c a0) M _ eM2) tb_1273 tb_1270 tb_1271 tb_1272 tb_21 ⟨rfl, hyJ0_indexOf_0f7a4⟩ rfl rfl ⟨by decide, by decide⟩ (Nat.le_of_ble_eq_true rfl) dX7_isNameCode_49 ?_
    refine g_if_lt X (pc := 52) (tgt := 59) dX7_isNameCode_52 (by decide) (fun hc => ?_) (fun hc => ?_)
    · have h := (if_pos hc).symm.trans h
      refine g_iconst X (pc := 59) (v := 0) dX7_isNameCode_59 (by decide) ?_
      obtain ⟨hz, rfl⟩ := rN_some h
      exact g_nreturn X rfl hz hE dX7_isNameCode_60
    · have h := (if_neg hc).symm.trans h
      refine g_iconst X (pc := 55) (v := 1) dX7_isNameCode_55 (by decide) ?_
      refine g_goto X (pc := 56) (tgt := 60) dX7_isNameCode_56 (by decide) ?_
      obtain ⟨hz, rfl⟩ := rN_some h
      exact g_nreturn X rfl hz hE dX7_isNameCode_60
theorem wX7_isNameCode_L24 {x : GX} {n0 sl0 : Nat} (X : Cx x cX7_isNameCode RX7 (some .boolean) n0 sl0 7 159) {out : Int32 × Mm} (hE : Ends x n0 sl0 (some (pI out.1)) out.2) (hn : xn x = 1) (fu : Nat)   (a0 : Int32)  (M : Mm) (h : fX7_isNameCode_L24 fu  a0 M = some out) : Gw x M 24 [(0, pI a0)] [] := by
  unfold fX7_isNameCode_L24 at h
  refine g_iload_n X (pc := 24) 0 rfl rfl dX7_isNameCode_24 ?_
  refine g_bipush X (pc := 25) (v := 48) dX7_isNameCode_25 (by decide) ?_
  refine g_icmp_lt X (pc := 27) (tgt := 38) dX7_isNameCode_27 (by decide) (fun hc => ?_) (fun hc => ?_)
  · have h := (if_pos hc).symm.trans h
    exact wX7_isNameCode_L38 X hE hn fu   a0 M h
  · have h := (if_neg hc).symm.trans h
    refine g_iload_n X (pc := 30) 0 rfl rfl dX7_isNameCode_30 ?_
    refine g_bipush X (pc := 31) (v := 57) dX7_isNameCode_31 (by decide) ?_
    refine g_icmp_gt X (pc := 33) (tgt := 38) dX7_isNameCode_33 (by decide) (fun hc => ?_) (fun hc => ?_)
    · have h := (if_pos hc).symm.trans h
      exact wX7_isNameCode_L38 X hE hn fu   a0 M h
    · have h := (if_neg hc).symm.trans h
      refine g_iconst X (pc := 36) (v := 1) dX7_isNameCode_36 (by decide) ?_
      obtain ⟨hz, rfl⟩ := rN_some h
      exact g_nreturn X rfl hz hE dX7_isNameCode_37
theorem wX7_isNameCode_L12 {x : GX} {n0 sl0 : Nat} (X : Cx x cX7_isNameCode RX7 (some .boolean) n0 sl0 7 159) {out : Int32 × Mm} (hE : Ends x n0 sl0 (some (pI out.1)) out.2) (hn : xn x = 1) (fu : Nat)   (a0 : Int32)  (M : Mm) (h : fX7_isNameCode_L12 fu  a0 M = some out) : Gw x M 12 [(0, pI a0)] [] := by
  unfold fX7_isNameCode_L12 at h
  refine g_iload_n X (pc := 12) 0 rfl rfl dX7_isNameCode_12 ?_
  refine g_bipush X (pc := 13) (v := 65) dX7_isNameCode_13 (by decide) ?_
  refine g_icmp_lt X (pc := 15) (tgt := 24) dX7_isNameCode_15 (by decide) (fun hc => ?_) (fun hc => ?_)
  · have h := (if_pos hc).symm.trans h
    exact wX7_isNameCode_L24 X hE hn fu   a0 M h
  · have h := (if_neg hc).symm.trans h
    refine g_iload_n X (pc := 18) 0 rfl rfl dX7_isNameCode_18 ?_
    refine g_bipush X (pc := 19) (v := 90) dX7_isNameCode_19 (by decide) ?_
    refine g_icmp_le X (pc := 21) (tgt := 36) dX7_isNameCode_21 (by decide) (fun hc => ?_) (fun hc => ?_)
    · have h := (if_pos hc).symm.trans h
      refine g_iconst X (pc := 36) (v := 1) dX7_isNameCode_36 (by decide) ?_
      obtain ⟨hz, rfl⟩ := rN_some h
      exact g_nreturn X rfl hz hE dX7_isNameCode_37
    · have h := (if_neg hc).symm.trans h
      exact wX7_isNameCode_L24 X hE hn fu   a0 M h
theorem wX7_isNameCode {x : GX} {n0 sl0 : Nat} (X : Cx x cX7_isNameCode RX7 (some .boolean) n0 sl0 7 159) {out : Int32 × Mm} (hE : Ends x n0 sl0 (some (pI out.1)) out.2) (hn : xn x = 1) (fu : Nat)   (a0 : Int32)  (M : Mm) (h : fX7_isNameCode fu  a0 M = some out) : Gw x M 0 [(0, pI a0)] [] := by
  unfold fX7_isNameCode at h
  refine g_iload_n X (pc := 0) 0 rfl rfl dX7_isNameCode_0 ?_
  refine g_bipush X (pc := 1) (v := 97) dX7_isNameCode_1 (by decide) ?_
  refine g_icmp_lt X (pc := 3) (tgt := 12) dX7_isNameCode_3 (by decide) (fun hc => ?_) (fun hc => ?_)
  · have h := (if_pos hc).symm.trans h
    exact wX7_isNameCode_L12 X hE hn fu   a0 M h
  · have h := (if_neg hc).symm.trans h
    refine g_iload_n X (pc := 6) 0 rfl rfl dX7_isNameCode_6 ?_
    refine g_bipush X (pc := 7) (v := 122) dX7_isNameCode_7 (by decide) ?_
    refine g_icmp_le X (pc := 9) (tgt := 36) dX7_isNameCode_9 (by decide) (fun hc => ?_) (fun hc => ?_)
    · have h := (if_pos hc).symm.trans h
      refine g_iconst X (pc := 36) (v := 1) dX7_isNameCode_36 (by decide) ?_
      obtain ⟨hz, rfl⟩ := rN_some h
      exact g_nreturn X rfl hz hE dX7_isNameCode_37
    · have h := (if_neg hc).symm.trans h
      exact wX7_isNameCode_L12 X hE hn fu   a0 M h
theorem hyX7_isNameCode : yX7_isNameCode.cls ≠ "java/lang/invoke/MethodHandle" ∧ yX7_isNameCode.cls ≠ "java/lang/invoke/VarHandle" ∧ (parseMethodDescriptor yX7_isNameCode.desc).map (fun d => d.parameters.length) = some 1 := ⟨by decide +kernel, by decide +kernel, by decide +kernel⟩
theorem ctX7_isNameCode (l : Launch) (E : Nat → Nat) (D : va_G) (dA : Nat → ClassId) (lo : Nat) (H0 : Heap) (fu : Nat) (a0 : Int32) (M : Mm) (out : Int32 × Mm) (h : fX7_isNameCode fu a0 M = some out) : Ct l E D dA lo H0 yX7_isNameCode cX7_isNameCode 1 (some .boolean) 7 159 [pI a0] M (some (pI out.1)) out.2 := by
  refine ct_of (by decide +kernel) (Nat.le_of_ble_eq_true rfl) ?_
  intro x hl he hd ha ho hh hn hin X hE
  exact wX7_isNameCode X hE hn fu a0 M h
/-! WebHost$Requests.isBlank(I)Z -/
def fX7_isBlank (fu : Nat)  (a0 : Int32)  (M : Mm) : Option (Int32 × Mm) :=
    if a0 = (32 : Int32) then (
    rN .boolean (1 : Int32) M)
    else (
    if a0 = (9 : Int32) then (
    rN .boolean (1 : Int32) M)
    else (
    rN .boolean (0 : Int32) M))
theorem dX7_isBlank_0 : decode cX7_isBlank 0 = .ok (.iload_n 0, 1) := by decide +kernel
theorem dX7_isBlank_1 : decode cX7_isBlank 1 = .ok (.bipush 32, 2) := by decide +kernel
theorem dX7_isBlank_3 : decode cX7_isBlank 3 = .ok (.if_icmp .eq 9, 3) := by decide +kernel
theorem dX7_isBlank_6 : decode cX7_isBlank 6 = .ok (.iload_n 0, 1) := by decide +kernel
theorem dX7_isBlank_7 : decode cX7_isBlank 7 = .ok (.bipush 9, 2) := by decide +kernel
theorem dX7_isBlank_9 : decode cX7_isBlank 9 = .ok (.if_icmp .ne 7, 3) := by decide +kernel
theorem dX7_isBlank_12 : decode cX7_isBlank 12 = .ok (.iconst 1, 1) := by decide +kernel
theorem dX7_isBlank_13 : decode cX7_isBlank 13 = .ok (.goto 4, 3) := by decide +kernel
theorem dX7_isBlank_16 : decode cX7_isBlank 16 = .ok (.iconst 0, 1) := by decide +kernel
theorem dX7_isBlank_17 : decode cX7_isBlank 17 = .ok (.ireturn, 1) := by decide +kernel
theorem wX7_isBlank {x : GX} {n0 sl0 : Nat} (X : Cx x cX7_isBlank RX7 (some .boolean) n0 sl0 0 0) {out : Int32 × Mm} (hE : Ends x n0 sl0 (some (pI out.1)) out.2) (hn : xn x = 1) (fu : Nat)   (a0 : Int32)  (M : Mm) (h : fX7_isBlank fu  a0 M = some out) : Gw x M 0 [(0, pI a0)] [] := by
  unfold fX7_isBlank at h
  refine g_iload_n X (pc := 0) 0 rfl rfl dX7_isBlank_0 ?_
  refine g_bipush X (pc := 1) (v := 32) dX7_isBlank_1 (by decide) ?_
  refine g_icmp_eq X (pc := 3) (tgt := 12) dX7_isBlank_3 (by decide) (fun hc => ?_) (fun hc => ?_)
  · have h := (if_pos hc).symm.trans h
    refine g_iconst X (pc := 12) (v := 1) dX7_isBlank_12 (by decide) ?_
    refine g_goto X (pc := 13) (tgt := 17) dX7_isBlank_13 (by decide) ?_
    obtain ⟨hz, rfl⟩ := rN_some h
    exact g_nreturn X rfl hz hE dX7_isBlank_17
  · have h := (if_neg hc).symm.trans h
    refine g_iload_n X (pc := 6) 0 rfl rfl dX7_isBlank_6 ?_
    refine g_bipush X (pc := 7) (v := 9) dX7_isBlank_7 (by decide) ?_
    refine g_icmp_ne X (pc := 9) (tgt := 16) dX7_isBlank_9 (by decide) (fun hc => ?_) (fun hc => ?_)
    · have h := (if_neg hc).symm.trans h
      refine g_iconst X (pc := 16) (v := 0) dX7_isBlank_16 (by decide) ?_
      obtain ⟨hz, rfl⟩ := rN_some h
      exact g_nreturn X rfl hz hE dX7_isBlank_17
    · have h := (if_pos hc).symm.trans h
      refine g_iconst X (pc := 12) (v := 1) dX7_isBlank_12 (by decide) ?_
      refine g_goto X (pc := 13) (tgt := 17) dX7_isBlank_13 (by decide) ?_
      obtain ⟨hz, rfl⟩ := rN_some h
      exact g_nreturn X rfl hz hE dX7_isBlank_17
theorem hyX7_isBlank : yX7_isBlank.cls ≠ "java/lang/invoke/MethodHandle" ∧ yX7_isBlank.cls ≠ "java/lang/invoke/VarHandle" ∧ (parseMethodDescriptor yX7_isBlank.desc).map (fun d => d.parameters.length) = some 1 := ⟨by decide +kernel, by decide +kernel, by decide +kernel⟩
theorem ctX7_isBlank (l : Launch) (E : Nat → Nat) (D : va_G) (dA : Nat → ClassId) (lo : Nat) (H0 : Heap) (fu : Nat) (a0 : Int32) (M : Mm) (out : Int32 × Mm) (h : fX7_isBlank fu a0 M = some out) : Ct l E D dA lo H0 yX7_isBlank cX7_isBlank 1 (some .boolean) 0 0 [pI a0] M (some (pI out.1)) out.2 := by
  refine ct_of (by decide +kernel) (Nat.le_of_ble_eq_true rfl) ?_
  intro x hl he hd ha ho hh hn hin X hE
  exact wX7_isBlank X hE hn fu a0 M h
/-! WebHost$Requests.isWord(IILjava/lang/String;)Z -/
def fX7_isWord_L61 (fu : Nat) (k15 : Nat → Int32 → Option Nat → Int32 → Mm → Option (Int32 × Mm)) (a0 : Nat) (a1 : Int32) (a3 : Option Nat) (a4 : Int32) (s0 : Int32) (M : Mm) : Option (Int32 × Mm) :=
    (rcS a3).bind fun q1 =>
    b2 (fJ0_charAt_5068e fu q1 a4 M) fun v3 M2 =>
    if s0 = v3 then (
    k15 a0 a1 a3 (a4 + (1 : Int32)) M2)
    else (
    rN .boolean (0 : Int32) M2)
def fX7_isWord_L59 (fu : Nat) (k15 : Nat → Int32 → Option Nat → Int32 → Mm → Option (Int32 × Mm)) (a0 : Nat) (a1 : Int32) (a3 : Option Nat) (a4 : Int32) (a5 : Int32)  (M : Mm) : Option (Int32 × Mm) :=
    fX7_isWord_L61 fu k15 a0 a1 a3 a4 a5 M
def fX7_isWord_L15 (fu : Nat)  : Nat → Nat → Int32 → Option Nat → Int32 → Mm → Option (Int32 × Mm)
  | 0, _, _, _, _, _ => none
  | n + 1, a0, a1, a3, a4, M =>
    (rcS a3).bind fun q1 =>
    b2 (fJ0_length_8abf5 fu q1  M) fun v3 M2 =>
    if v3 ≤ a4 then (
    rN .boolean (1 : Int32) M2)
    else (
    (gR M2 7 450 (some a0)).bind fun v4 =>
    b2 (fX11_one fu  v4 (a1 + a4) M2) fun v6 M5 =>
    if v6 < (65 : Int32) then (
    fX7_isWord_L59 fu (fun b0 b1 b3 b4 M => fX7_isWord_L15 fu  n b0 b1 b3 b4 M) a0 a1 a3 a4 v6 M5)
    else (
    if (90 : Int32) < v6 then (
    fX7_isWord_L59 fu (fun b0 b1 b3 b4 M => fX7_isWord_L15 fu  n b0 b1 b3 b4 M) a0 a1 a3 a4 v6 M5)
    else (
    fX7_isWord_L61 fu (fun b0 b1 b3 b4 M => fX7_isWord_L15 fu  n b0 b1 b3 b4 M) a0 a1 a3 a4 (v6 + (32 : Int32)) M5)))
def fX7_isWord (fu : Nat)  (a0 : Nat) (a1 : Int32) (a2 : Int32) (a3 : Option Nat)  (M : Mm) : Option (Int32 × Mm) :=
    (rcS a3).bind fun q1 =>
    b2 (fJ0_length_8abf5 fu q1  M) fun v3 M2 =>
    if (a2 - a1) = v3 then (
    fX7_isWord_L15 fu  fu a0 a1 a3 (0 : Int32) M2)
    else (
    rN .boolean (0 : Int32) M2)
theorem dX7_isWord_0 : decode cX7_isWord 0 = .ok (.iload_n 2, 1) := by decide +kernel
theorem dX7_isWord_1 : decode cX7_isWord 1 = .ok (.iload_n 1, 1) := by decide +kernel
theorem dX7_isWord_2 : decode cX7_isWord 2 = .ok (.isub, 1) := by decide +kernel
theorem dX7_isWord_3 : decode cX7_isWord 3 = .ok (.aload_n 3, 1) := by decide +kernel
theorem dX7_isWord_4 : decode cX7_isWord 4 = .ok (.invokevirtual 156, 3) := by decide +kernel
theorem dX7_isWord_7 : decode cX7_isWord 7 = .ok (.if_icmp .eq 5, 3) := by decide +kernel
theorem dX7_isWord_10 : decode cX7_isWord 10 = .ok (.iconst 0, 1) := by decide +kernel
theorem dX7_isWord_11 : decode cX7_isWord 11 = .ok (.ireturn, 1) := by decide +kernel
theorem dX7_isWord_12 : decode cX7_isWord 12 = .ok (.iconst 0, 1) := by decide +kernel
theorem dX7_isWord_13 : decode cX7_isWord 13 = .ok (.istore 4, 2) := by decide +kernel
theorem dX7_isWord_15 : decode cX7_isWord 15 = .ok (.iload 4, 2) := by decide +kernel
theorem dX7_isWord_17 : decode cX7_isWord 17 = .ok (.aload_n 3, 1) := by decide +kernel
theorem dX7_isWord_18 : decode cX7_isWord 18 = .ok (.invokevirtual 156, 3) := by decide +kernel
theorem dX7_isWord_21 : decode cX7_isWord 21 = .ok (.if_icmp .ge 57, 3) := by decide +kernel
theorem dX7_isWord_24 : decode cX7_isWord 24 = .ok (.aload_n 0, 1) := by decide +kernel
theorem dX7_isWord_25 : decode cX7_isWord 25 = .ok (.getfield 21, 3) := by decide +kernel
theorem dX7_isWord_28 : decode cX7_isWord 28 = .ok (.iload_n 1, 1) := by decide +kernel
theorem dX7_isWord_29 : decode cX7_isWord 29 = .ok (.iload 4, 2) := by decide +kernel
theorem dX7_isWord_31 : decode cX7_isWord 31 = .ok (.iadd, 1) := by decide +kernel
theorem dX7_isWord_32 : decode cX7_isWord 32 = .ok (.invokestatic 97, 3) := by decide +kernel
theorem dX7_isWord_35 : decode cX7_isWord 35 = .ok (.istore 5, 2) := by decide +kernel
theorem dX7_isWord_37 : decode cX7_isWord 37 = .ok (.iload 5, 2) := by decide +kernel
theorem dX7_isWord_39 : decode cX7_isWord 39 = .ok (.bipush 65, 2) := by decide +kernel
theorem dX7_isWord_41 : decode cX7_isWord 41 = .ok (.if_icmp .lt 18, 3) := by decide +kernel
theorem dX7_isWord_44 : decode cX7_isWord 44 = .ok (.iload 5, 2) := by decide +kernel
theorem dX7_isWord_46 : decode cX7_isWord 46 = .ok (.bipush 90, 2) := by decide +kernel
theorem dX7_isWord_48 : decode cX7_isWord 48 = .ok (.if_icmp .gt 11, 3) := by decide +kernel
theorem dX7_isWord_51 : decode cX7_isWord 51 = .ok (.iload 5, 2) := by decide +kernel
theorem dX7_isWord_53 : decode cX7_isWord 53 = .ok (.bipush 32, 2) := by decide +kernel
theorem dX7_isWord_55 : decode cX7_isWord 55 = .ok (.iadd, 1) := by decide +kernel
theorem dX7_isWord_56 : decode cX7_isWord 56 = .ok (.goto 5, 3) := by decide +kernel
theorem dX7_isWord_59 : decode cX7_isWord 59 = .ok (.iload 5, 2) := by decide +kernel
theorem dX7_isWord_61 : decode cX7_isWord 61 = .ok (.aload_n 3, 1) := by decide +kernel
theorem dX7_isWord_62 : decode cX7_isWord 62 = .ok (.iload 4, 2) := by decide +kernel
theorem dX7_isWord_64 : decode cX7_isWord 64 = .ok (.invokevirtual 161, 3) := by decide +kernel
theorem dX7_isWord_67 : decode cX7_isWord 67 = .ok (.if_icmp .eq 5, 3) := by decide +kernel
theorem dX7_isWord_70 : decode cX7_isWord 70 = .ok (.iconst 0, 1) := by decide +kernel
theorem dX7_isWord_71 : decode cX7_isWord 71 = .ok (.ireturn, 1) := by decide +kernel
theorem dX7_isWord_72 : decode cX7_isWord 72 = .ok (.iinc 4 1, 3) := by decide +kernel
theorem dX7_isWord_75 : decode cX7_isWord 75 = .ok (.goto (-60), 3) := by decide +kernel
theorem dX7_isWord_78 : decode cX7_isWord 78 = .ok (.iconst 1, 1) := by decide +kernel
theorem dX7_isWord_79 : decode cX7_isWord 79 = .ok (.ireturn, 1) := by decide +kernel
theorem wX7_isWord_L61 {x : GX} {n0 sl0 : Nat} (X : Cx x cX7_isWord RX7 (some .boolean) n0 sl0 5 106) {out : Int32 × Mm} (hE : Ends x n0 sl0 (some (pI out.1)) out.2) (hn : xn x = 6) (fu : Nat) (k15 : Nat → Int32 → Option Nat → Int32 → Mm → Option (Int32 × Mm)) (hk15 : ∀ (b0 : Nat) (b1 : Int32) (b3 : Option Nat) (b4 : Int32)  (M : Mm), k15 b0 b1 b3 b4 M = some out → Gw x M 15 [(0, pR (some b0)), (1, pI b1), (3, pR b3), (4, pI b4)] []) (a0 : Nat) (a1 : Int32) (a3 : Option Nat) (a4 : Int32) (s0 : Int32) (M : Mm) (h : fX7_isWord_L61 fu k15 a0 a1 a3 a4 s0 M = some out) : Gw x M 61 [(0, pR (some a0)), (1, pI a1), (3, pR a3), (4, pI a4)] [pI s0] := by
  unfold fX7_isWord_L61 at h
  refine g_aload_n X (pc := 61) 2 rfl rfl dX7_isWord_61 ?_
  refine g_iload X (pc := 62) 3 rfl dX7_isWord_62 ?_
  obtain ⟨q1, eq1, h⟩ := bd h
  obtain ⟨v3, M2, eM2, h⟩ := b2d h
  refine g_callVS X (pc := 64) (M' := M2) (ro := some (pI v3)) (as := [pI a4]) (as' := [pI a4]) (st := [pI s0]) eq1 (ctJ0_charAt_5068e _ _ _ _ _ _ fu q1 a4 M _ eM2) tb_1224 tb_1221 tb_1222 tb_1223 tb_21 ⟨rfl, hyJ0_charAt_5068e⟩ rfl rfl ⟨by decide, by decide⟩ (Nat.le_of_ble_eq_true rfl) dX7_isWord_64 ?_
  refine g_icmp_eq X (pc := 67) (tgt := 72) dX7_isWord_67 (by decide) (fun hc => ?_) (fun hc => ?_)
  · have h := (if_pos hc).symm.trans h
    refine g_iinc X (pc := 72) 3 [(4, pI (a4 + (1 : Int32))), (0, pR (some a0)), (1, pI a1), (3, pR a3)] rfl (iinc_e (by decide)) (lt_n hn (by decide)) rfl dX7_isWord_72 ?_
    refine g_goto X (pc := 75) (tgt := 15) dX7_isWord_75 (by decide) ?_
    refine g_sub [1, 2, 3, 0] [(0, pR (some a0)), (1, pI a1), (3, pR a3), (4, pI (a4 + (1 : Int32)))] rfl ?_
    exact hk15 a0 a1 a3 (a4 + (1 : Int32)) M2 h
  · have h := (if_neg hc).symm.trans h
    refine g_iconst X (pc := 70) (v := 0) dX7_isWord_70 (by decide) ?_
    obtain ⟨hz, rfl⟩ := rN_some h
    exact g_nreturn X rfl hz hE dX7_isWord_71
theorem wX7_isWord_L59 {x : GX} {n0 sl0 : Nat} (X : Cx x cX7_isWord RX7 (some .boolean) n0 sl0 5 106) {out : Int32 × Mm} (hE : Ends x n0 sl0 (some (pI out.1)) out.2) (hn : xn x = 6) (fu : Nat) (k15 : Nat → Int32 → Option Nat → Int32 → Mm → Option (Int32 × Mm)) (hk15 : ∀ (b0 : Nat) (b1 : Int32) (b3 : Option Nat) (b4 : Int32)  (M : Mm), k15 b0 b1 b3 b4 M = some out → Gw x M 15 [(0, pR (some b0)), (1, pI b1), (3, pR b3), (4, pI b4)] []) (a0 : Nat) (a1 : Int32) (a3 : Option Nat) (a4 : Int32) (a5 : Int32)  (M : Mm) (h : fX7_isWord_L59 fu k15 a0 a1 a3 a4 a5 M = some out) : Gw x M 59 [(0, pR (some a0)), (1, pI a1), (3, pR a3), (4, pI a4), (5, pI a5)] [] := by
  unfold fX7_isWord_L59 at h
  refine g_iload X (pc := 59) 4 rfl dX7_isWord_59 ?_
  refine g_sub [0, 1, 2, 3] [(0, pR (some a0)), (1, pI a1), (3, pR a3), (4, pI a4)] rfl ?_
  exact wX7_isWord_L61 X hE hn fu k15 hk15 a0 a1 a3 a4 a5 M h
theorem wX7_isWord_L15 {x : GX} {n0 sl0 : Nat} (X : Cx x cX7_isWord RX7 (some .boolean) n0 sl0 5 106) {out : Int32 × Mm} (hE : Ends x n0 sl0 (some (pI out.1)) out.2) (hn : xn x = 6) (fu : Nat)   : ∀ (n : Nat) (a0 : Nat) (a1 : Int32) (a3 : Option Nat) (a4 : Int32)  (M : Mm), fX7_isWord_L15 fu  n a0 a1 a3 a4 M = some out → Gw x M 15 [(0, pR (some a0)), (1, pI a1), (3, pR a3), (4, pI a4)] [] := by
  intro n
  induction n with
  | zero =>
    intro a0 a1 a3 a4 M h
    have h : (none : Option (Int32 × Mm)) = some out := h
    cases h
  | succ n ih =>
    intro a0 a1 a3 a4 M h
    rw [fX7_isWord_L15] at h
    refine g_iload X (pc := 15) 3 rfl dX7_isWord_15 ?_
    refine g_aload_n X (pc := 17) 2 rfl rfl dX7_isWord_17 ?_
    obtain ⟨q1, eq1, h⟩ := bd h
    obtain ⟨v3, M2, eM2, h⟩ := b2d h
    refine g_callVS X (pc := 18) (M' := M2) (ro := some (pI v3)) (as := []) (as' := []) (st := [pI a4]) eq1 (ctJ0_length_8abf5 _ _ _ _ _ _ fu q1  M _ eM2) tb_1214 tb_1211 tb_1212 tb_1213 tb_21 ⟨rfl, hyJ0_length_8abf5⟩ rfl rfl ⟨by decide, by decide⟩ (Nat.le_of_ble_eq_true rfl) dX7_isWord_18 ?_
    refine g_icmp_ge X (pc := 21) (tgt := 78) dX7_isWord_21 (by decide) (fun hc => ?_) (fun hc => ?_)
    · have h := (if_pos hc).symm.trans h
      refine g_iconst X (pc := 78) (v := 1) dX7_isWord_78 (by decide) ?_
      obtain ⟨hz, rfl⟩ := rN_some h
      exact g_nreturn X rfl hz hE dX7_isWord_79
    · have h := (if_neg hc).symm.trans h
      refine g_aload_n X (pc := 24) 0 rfl rfl dX7_isWord_24 ?_
      obtain ⟨v4, ev4, h⟩ := bd h
      refine g_getR X (pc := 25) fk_7_2 rfl rfl ev4 tb_258 dX7_isWord_25 ?_
      refine g_iload_n X (pc := 28) 1 rfl rfl dX7_isWord_28 ?_
      refine g_iload X (pc := 29) 3 rfl dX7_isWord_29 ?_
      refine g_iadd X (pc := 31) dX7_isWord_31 ?_
      obtain ⟨v6, M5, eM5, h⟩ := b2d h
      refine g_callSN X (pc := 32) (M' := M5) (ro := some (pI v6)) (as := [pR v4, pI (a1 + a4)]) (as' := [pI (a1 + a4), pR v4]) (st := []) (ctX11_one _ _ _ _ _ _ fu  v4 (a1 + a4) M2 _ eM5) tb_415 (List.mem_of_getElem? (i := 24) rfl) tb_414 tb_1 hyX11_one rfl rfl ⟨by decide, by decide⟩ (Nat.le_of_ble_eq_true rfl) dX7_isWord_32 ?_
      refine g_istore X (pc := 35) [(5, pI v6), (0, pR (some a0)), (1, pI a1), (3, pR a3), (4, pI a4)] (lt_n hn (by decide)) rfl dX7_isWord_35 ?_
      refine g_iload X (pc := 37) 0 rfl dX7_isWord_37 ?_
      refine g_bipush X (pc := 39) (v := 65) dX7_isWord_39 (by decide) ?_
      refine g_icmp_lt X (pc := 41) (tgt := 59) dX7_isWord_41 (by decide) (fun hc => ?_) (fun hc => ?_)
      · have h := (if_pos hc).symm.trans h
        refine g_sub [1, 2, 3, 4, 0] [(0, pR (some a0)), (1, pI a1), (3, pR a3), (4, pI a4), (5, pI v6)] rfl ?_
        exact wX7_isWord_L59 X hE hn fu (fun b0 b1 b3 b4 M => fX7_isWord_L15 fu  n b0 b1 b3 b4 M) ih a0 a1 a3 a4 v6 M5 h
      · have h := (if_neg hc).symm.trans h
        refine g_iload X (pc := 44) 0 rfl dX7_isWord_44 ?_
        refine g_bipush X (pc := 46) (v := 90) dX7_isWord_46 (by decide) ?_
        refine g_icmp_gt X (pc := 48) (tgt := 59) dX7_isWord_48 (by decide) (fun hc => ?_) (fun hc => ?_)
        · have h := (if_pos hc).symm.trans h
          refine g_sub [1, 2, 3, 4, 0] [(0, pR (some a0)), (1, pI a1), (3, pR a3), (4, pI a4), (5, pI v6)] rfl ?_
          exact wX7_isWord_L59 X hE hn fu (fun b0 b1 b3 b4 M => fX7_isWord_L15 fu  n b0 b1 b3 b4 M) ih a0 a1 a3 a4 v6 M5 h
        · have h := (if_neg hc).symm.trans h
          refine g_iload X (pc := 51) 0 rfl dX7_isWord_51 ?_
          refine g_bipush X (pc := 53) (v := 32) dX7_isWord_53 (by decide) ?_
          refine g_iadd X (pc := 55) dX7_isWord_55 ?_
          refine g_goto X (pc := 56) (tgt := 61) dX7_isWord_56 (by decide) ?_
          refine g_sub [1, 2, 3, 4] [(0, pR (some a0)), (1, pI a1), (3, pR a3), (4, pI a4)] rfl ?_
          exact wX7_isWord_L61 X hE hn fu (fun b0 b1 b3 b4 M => fX7_isWord_L15 fu  n b0 b1 b3 b4 M) ih a0 a1 a3 a4 (v6 + (32 : Int32)) M5 h
theorem wX7_isWord {x : GX} {n0 sl0 : Nat} (X : Cx x cX7_isWord RX7 (some .boolean) n0 sl0 5 106) {out : Int32 × Mm} (hE : Ends x n0 sl0 (some (pI out.1)) out.2) (hn : xn x = 6) (fu : Nat)   (a0 : Nat) (a1 : Int32) (a2 : Int32) (a3 : Option Nat)  (M : Mm) (h : fX7_isWord fu  a0 a1 a2 a3 M = some out) : Gw x M 0 [(0, pR (some a0)), (1, pI a1), (2, pI a2), (3, pR a3)] [] := by
  unfold fX7_isWord at h
  refine g_iload_n X (pc := 0) 2 rfl rfl dX7_isWord_0 ?_
  refine g_iload_n X (pc := 1) 1 rfl rfl dX7_isWord_1 ?_
  refine g_isub X (pc := 2) dX7_isWord_2 ?_
  refine g_aload_n X (pc := 3) 3 rfl rfl dX7_isWord_3 ?_
  obtain ⟨q1, eq1, h⟩ := bd h
  obtain ⟨v3, M2, eM2, h⟩ := b2d h
  refine g_callVS X (pc := 4) (M' := M2) (ro := some (pI v3)) (as := []) (as' := []) (st := [pI (a2 - a1)]) eq1 (ctJ0_length_8abf5 _ _ _ _ _ _ fu q1  M _ eM2) tb_1214 tb_1211 tb_1212 tb_1213 tb_21 ⟨rfl, hyJ0_length_8abf5⟩ rfl rfl ⟨by decide, by decide⟩ (Nat.le_of_ble_eq_true rfl) dX7_isWord_4 ?_
  refine g_icmp_eq X (pc := 7) (tgt := 12) dX7_isWord_7 (by decide) (fun hc => ?_) (fun hc => ?_)
  · have h := (if_pos hc).symm.trans h
    refine g_iconst X (pc := 12) (v := 0) dX7_isWord_12 (by decide) ?_
    refine g_istore X (pc := 13) [(4, pI (0 : Int32)), (0, pR (some a0)), (1, pI a1), (2, pI a2), (3, pR a3)] (lt_n hn (by decide)) rfl dX7_isWord_13 ?_
    refine g_sub [1, 2, 4, 0] [(0, pR (some a0)), (1, pI a1), (3, pR a3), (4, pI (0 : Int32))] rfl ?_
    exact wX7_isWord_L15 X hE hn fu   fu a0 a1 a3 (0 : Int32) M2 h
  · have h := (if_neg hc).symm.trans h
    refine g_iconst X (pc := 10) (v := 0) dX7_isWord_10 (by decide) ?_
    obtain ⟨hz, rfl⟩ := rN_some h
    exact g_nreturn X rfl hz hE dX7_isWord_11
theorem hyX7_isWord : yX7_isWord.cls ≠ "java/lang/invoke/MethodHandle" ∧ yX7_isWord.cls ≠ "java/lang/invoke/VarHandle" ∧ (parseMethodDescriptor yX7_isWord.desc).map (fun d => d.parameters.length) = some 3 := ⟨by decide +kernel, by decide +kernel, by decide +kernel⟩
theorem ctX7_isWord (l : Launch) (E : Nat → Nat) (D : va_G) (dA : Nat → ClassId) (lo : Nat) (H0 : Heap) (fu : Nat) (a0 : Nat) (a1 : Int32) (a2 : Int32) (a3 : Option Nat) (M : Mm) (out : Int32 × Mm) (h : fX7_isWord fu a0 a1 a2 a3 M = some out) : Ct l E D dA lo H0 yX7_isWord cX7_isWord 6 (some .boolean) 5 106 [pR (some a0), pI a1, pI a2, pR a3] M (some (pI out.1)) out.2 := by
  refine ct_of (by decide +kernel) (Nat.le_of_ble_eq_true rfl) ?_
  intro x hl he hd ha ho hh hn hin X hE
  exact wX7_isWord X hE hn fu a0 a1 a2 a3 M h
/-! WebHost$Requests.decimal(II)I -/
def fX7_decimal_L20 (fu : Nat)  : Nat → Nat → Int32 → Int32 → Int32 → Mm → Option (Int32 × Mm)
  | 0, _, _, _, _, _ => none
  | n + 1, a0, a2, a3, a4, M =>
    if a2 ≤ a4 then (
    some (a3, M))
    else (
    (gR M 7 450 (some a0)).bind fun v1 =>
    b2 (fX11_one fu  v1 a4 M) fun v3 M2 =>
    if (v3 - (48 : Int32)) < 0 then (
    some ((-1 : Int32), M2))
    else (
    if (v3 - (48 : Int32)) ≤ (9 : Int32) then (
    (some ((a3 * (10 : Int32)) + (v3 - (48 : Int32)))).bind fun v4 =>
    fX7_decimal_L20 fu  n a0 a2 v4 (a4 + (1 : Int32)) M2)
    else (
    some ((-1 : Int32), M2))))
def fX7_decimal (fu : Nat)  (a0 : Nat) (a1 : Int32) (a2 : Int32)  (M : Mm) : Option (Int32 × Mm) :=
    if a2 ≤ a1 then (
    some ((-1 : Int32), M))
    else (
    if (a2 - a1) ≤ (9 : Int32) then (
    fX7_decimal_L20 fu  fu a0 a2 (0 : Int32) a1 M)
    else (
    some ((-1 : Int32), M)))
theorem dX7_decimal_0 : decode cX7_decimal 0 = .ok (.iload_n 2, 1) := by decide +kernel
theorem dX7_decimal_1 : decode cX7_decimal 1 = .ok (.iload_n 1, 1) := by decide +kernel
theorem dX7_decimal_2 : decode cX7_decimal 2 = .ok (.if_icmp .le 11, 3) := by decide +kernel
theorem dX7_decimal_5 : decode cX7_decimal 5 = .ok (.iload_n 2, 1) := by decide +kernel
theorem dX7_decimal_6 : decode cX7_decimal 6 = .ok (.iload_n 1, 1) := by decide +kernel
theorem dX7_decimal_7 : decode cX7_decimal 7 = .ok (.isub, 1) := by decide +kernel
theorem dX7_decimal_8 : decode cX7_decimal 8 = .ok (.bipush 9, 2) := by decide +kernel
theorem dX7_decimal_10 : decode cX7_decimal 10 = .ok (.if_icmp .le 5, 3) := by decide +kernel
theorem dX7_decimal_13 : decode cX7_decimal 13 = .ok (.iconst (-1), 1) := by decide +kernel
theorem dX7_decimal_14 : decode cX7_decimal 14 = .ok (.ireturn, 1) := by decide +kernel
theorem dX7_decimal_15 : decode cX7_decimal 15 = .ok (.iconst 0, 1) := by decide +kernel
theorem dX7_decimal_16 : decode cX7_decimal 16 = .ok (.istore_n 3, 1) := by decide +kernel
theorem dX7_decimal_17 : decode cX7_decimal 17 = .ok (.iload_n 1, 1) := by decide +kernel
theorem dX7_decimal_18 : decode cX7_decimal 18 = .ok (.istore 4, 2) := by decide +kernel
theorem dX7_decimal_20 : decode cX7_decimal 20 = .ok (.iload 4, 2) := by decide +kernel
theorem dX7_decimal_22 : decode cX7_decimal 22 = .ok (.iload_n 2, 1) := by decide +kernel
theorem dX7_decimal_23 : decode cX7_decimal 23 = .ok (.if_icmp .ge 45, 3) := by decide +kernel
theorem dX7_decimal_26 : decode cX7_decimal 26 = .ok (.aload_n 0, 1) := by decide +kernel
theorem dX7_decimal_27 : decode cX7_decimal 27 = .ok (.getfield 21, 3) := by decide +kernel
theorem dX7_decimal_30 : decode cX7_decimal 30 = .ok (.iload 4, 2) := by decide +kernel
theorem dX7_decimal_32 : decode cX7_decimal 32 = .ok (.invokestatic 97, 3) := by decide +kernel
theorem dX7_decimal_35 : decode cX7_decimal 35 = .ok (.bipush 48, 2) := by decide +kernel
theorem dX7_decimal_37 : decode cX7_decimal 37 = .ok (.isub, 1) := by decide +kernel
theorem dX7_decimal_38 : decode cX7_decimal 38 = .ok (.istore 5, 2) := by decide +kernel
theorem dX7_decimal_40 : decode cX7_decimal 40 = .ok (.iload 5, 2) := by decide +kernel
theorem dX7_decimal_42 : decode cX7_decimal 42 = .ok (.ifCond .lt 10, 3) := by decide +kernel
theorem dX7_decimal_45 : decode cX7_decimal 45 = .ok (.iload 5, 2) := by decide +kernel
theorem dX7_decimal_47 : decode cX7_decimal 47 = .ok (.bipush 9, 2) := by decide +kernel
theorem dX7_decimal_49 : decode cX7_decimal 49 = .ok (.if_icmp .le 5, 3) := by decide +kernel
theorem dX7_decimal_52 : decode cX7_decimal 52 = .ok (.iconst (-1), 1) := by decide +kernel
theorem dX7_decimal_53 : decode cX7_decimal 53 = .ok (.ireturn, 1) := by decide +kernel
theorem dX7_decimal_54 : decode cX7_decimal 54 = .ok (.iload_n 3, 1) := by decide +kernel
theorem dX7_decimal_55 : decode cX7_decimal 55 = .ok (.bipush 10, 2) := by decide +kernel
theorem dX7_decimal_57 : decode cX7_decimal 57 = .ok (.imul, 1) := by decide +kernel
theorem dX7_decimal_58 : decode cX7_decimal 58 = .ok (.iload 5, 2) := by decide +kernel
theorem dX7_decimal_60 : decode cX7_decimal 60 = .ok (.iadd, 1) := by decide +kernel
theorem dX7_decimal_61 : decode cX7_decimal 61 = .ok (.istore_n 3, 1) := by decide +kernel
theorem dX7_decimal_62 : decode cX7_decimal 62 = .ok (.iinc 4 1, 3) := by decide +kernel
theorem dX7_decimal_65 : decode cX7_decimal 65 = .ok (.goto (-45), 3) := by decide +kernel
theorem dX7_decimal_68 : decode cX7_decimal 68 = .ok (.iload_n 3, 1) := by decide +kernel
theorem dX7_decimal_69 : decode cX7_decimal 69 = .ok (.ireturn, 1) := by decide +kernel
theorem wX7_decimal_L20 {x : GX} {n0 sl0 : Nat} (X : Cx x cX7_decimal RX7 (some .int) n0 sl0 1 21) {out : Int32 × Mm} (hE : Ends x n0 sl0 (some (pI out.1)) out.2) (hn : xn x = 6) (fu : Nat)   : ∀ (n : Nat) (a0 : Nat) (a2 : Int32) (a3 : Int32) (a4 : Int32)  (M : Mm), fX7_decimal_L20 fu  n a0 a2 a3 a4 M = some out → Gw x M 20 [(0, pR (some a0)), (2, pI a2), (3, pI a3), (4, pI a4)] [] := by
  intro n
  induction n with
  | zero =>
    intro a0 a2 a3 a4 M h
    have h : (none : Option (Int32 × Mm)) = some out := h
    cases h
  | succ n ih =>
    intro a0 a2 a3 a4 M h
    rw [fX7_decimal_L20] at h
    refine g_iload X (pc := 20) 3 rfl dX7_decimal_20 ?_
    refine g_iload_n X (pc := 22) 1 rfl rfl dX7_decimal_22 ?_
    refine g_icmp_ge X (pc := 23) (tgt := 68) dX7_decimal_23 (by decide) (fun hc => ?_) (fun hc => ?_)
    · have h := (if_pos hc).symm.trans h
      refine g_iload_n X (pc := 68) 2 rfl rfl dX7_decimal_68 ?_
      obtain rfl := Option.some.inj h
      exact g_ireturn X hE dX7_decimal_69
    · have h := (if_neg hc).symm.trans h
      refine g_aload_n X (pc := 26) 0 rfl rfl dX7_decimal_26 ?_
      obtain ⟨v1, ev1, h⟩ := bd h
      refine g_getR X (pc := 27) fk_7_2 rfl rfl ev1 tb_258 dX7_decimal_27 ?_
      refine g_iload X (pc := 30) 3 rfl dX7_decimal_30 ?_
      obtain ⟨v3, M2, eM2, h⟩ := b2d h
      refine g_callSN X (pc := 32) (M' := M2) (ro := some (pI v3)) (as := [pR v1, pI a4]) (as' := [pI a4, pR v1]) (st := []) (ctX11_one _ _ _ _ _ _ fu  v1 a4 M _ eM2) tb_415 (List.mem_of_getElem? (i := 24) rfl) tb_414 tb_1 hyX11_one rfl rfl ⟨by decide, by decide⟩ (Nat.le_of_ble_eq_true rfl) dX7_decimal_32 ?_
      refine g_bipush X (pc := 35) (v := 48) dX7_decimal_35 (by decide) ?_
      refine g_isub X (pc := 37) dX7_decimal_37 ?_
      refine g_istore X (pc := 38) [(5, pI (v3 - (48 : Int32))), (0, pR (some a0)), (2, pI a2), (3, pI a3), (4, pI a4)] (lt_n hn (by decide)) rfl dX7_decimal_38 ?_
      refine g_iload X (pc := 40) 0 rfl dX7_decimal_40 ?_
      refine g_if_lt X (pc := 42) (tgt := 52) dX7_decimal_42 (by decide) (fun hc => ?_) (fun hc => ?_)
      · have h := (if_pos hc).symm.trans h
        refine g_iconst X (pc := 52) (v := (-1)) dX7_decimal_52 (by decide) ?_
        obtain rfl := Option.some.inj h
        exact g_ireturn X hE dX7_decimal_53
      · have h := (if_neg hc).symm.trans h
        refine g_iload X (pc := 45) 0 rfl dX7_decimal_45 ?_
        refine g_bipush X (pc := 47) (v := 9) dX7_decimal_47 (by decide) ?_
        refine g_icmp_le X (pc := 49) (tgt := 54) dX7_decimal_49 (by decide) (fun hc => ?_) (fun hc => ?_)
        · have h := (if_pos hc).symm.trans h
          refine g_iload_n X (pc := 54) 3 rfl rfl dX7_decimal_54 ?_
          refine g_bipush X (pc := 55) (v := 10) dX7_decimal_55 (by decide) ?_
          refine g_imul X (pc := 57) dX7_decimal_57 ?_
          refine g_iload X (pc := 58) 0 rfl dX7_decimal_58 ?_
          refine g_iadd X (pc := 60) dX7_decimal_60 ?_
          obtain ⟨v4, ev4, h⟩ := bd h
          refine g_nmI ev4 ?_
          refine g_istore_n X (pc := 61) [(3, pI v4), (5, pI (v3 - (48 : Int32))), (0, pR (some a0)), (2, pI a2), (4, pI a4)] rfl (lt_n hn (by decide)) rfl dX7_decimal_61 ?_
          refine g_iinc X (pc := 62) 4 [(4, pI (a4 + (1 : Int32))), (3, pI v4), (5, pI (v3 - (48 : Int32))), (0, pR (some a0)), (2, pI a2)] rfl (iinc_e (by decide)) (lt_n hn (by decide)) rfl dX7_decimal_62 ?_
          refine g_goto X (pc := 65) (tgt := 20) dX7_decimal_65 (by decide) ?_
          refine g_sub [3, 4, 1, 0] [(0, pR (some a0)), (2, pI a2), (3, pI v4), (4, pI (a4 + (1 : Int32)))] rfl ?_
          exact ih a0 a2 v4 (a4 + (1 : Int32)) M2 h
        · have h := (if_neg hc).symm.trans h
          refine g_iconst X (pc := 52) (v := (-1)) dX7_decimal_52 (by decide) ?_
          obtain rfl := Option.some.inj h
          exact g_ireturn X hE dX7_decimal_53
theorem wX7_decimal {x : GX} {n0 sl0 : Nat} (X : Cx x cX7_decimal RX7 (some .int) n0 sl0 1 21) {out : Int32 × Mm} (hE : Ends x n0 sl0 (some (pI out.1)) out.2) (hn : xn x = 6) (fu : Nat)   (a0 : Nat) (a1 : Int32) (a2 : Int32)  (M : Mm) (h : fX7_decimal fu  a0 a1 a2 M = some out) : Gw x M 0 [(0, pR (some a0)), (1, pI a1), (2, pI a2)] [] := by
  unfold fX7_decimal at h
  refine g_iload_n X (pc := 0) 2 rfl rfl dX7_decimal_0 ?_
  refine g_iload_n X (pc := 1) 1 rfl rfl dX7_decimal_1 ?_
  refine g_icmp_le X (pc := 2) (tgt := 13) dX7_decimal_2 (by decide) (fun hc => ?_) (fun hc => ?_)
  · have h := (if_pos hc).symm.trans h
    refine g_iconst X (pc := 13) (v := (-1)) dX7_decimal_13 (by decide) ?_
    obtain rfl := Option.some.inj h
    exact g_ireturn X hE dX7_decimal_14
  · have h := (if_neg hc).symm.trans h
    refine g_iload_n X (pc := 5) 2 rfl rfl dX7_decimal_5 ?_
    refine g_iload_n X (pc := 6) 1 rfl rfl dX7_decimal_6 ?_
    refine g_isub X (pc := 7) dX7_decimal_7 ?_
    refine g_bipush X (pc := 8) (v := 9) dX7_decimal_8 (by decide) ?_
    refine g_icmp_le X (pc := 10) (tgt := 15) dX7_decimal_10 (by decide) (fun hc => ?_) (fun hc => ?_)
    · have h := (if_pos hc).symm.trans h
      refine g_iconst X (pc := 15) (v := 0) dX7_decimal_15 (by decide) ?_
      refine g_istore_n X (pc := 16) [(3, pI (0 : Int32)), (0, pR (some a0)), (1, pI a1), (2, pI a2)] rfl (lt_n hn (by decide)) rfl dX7_decimal_16 ?_
      refine g_iload_n X (pc := 17) 2 rfl rfl dX7_decimal_17 ?_
      refine g_istore X (pc := 18) [(4, pI a1), (3, pI (0 : Int32)), (0, pR (some a0)), (1, pI a1), (2, pI a2)] (lt_n hn (by decide)) rfl dX7_decimal_18 ?_
      refine g_sub [2, 4, 1, 0] [(0, pR (some a0)), (2, pI a2), (3, pI (0 : Int32)), (4, pI a1)] rfl ?_
      exact wX7_decimal_L20 X hE hn fu   fu a0 a2 (0 : Int32) a1 M h
    · have h := (if_neg hc).symm.trans h
      refine g_iconst X (pc := 13) (v := (-1)) dX7_decimal_13 (by decide) ?_
      obtain rfl := Option.some.inj h
      exact g_ireturn X hE dX7_decimal_14
theorem hyX7_decimal : yX7_decimal.cls ≠ "java/lang/invoke/MethodHandle" ∧ yX7_decimal.cls ≠ "java/lang/invoke/VarHandle" ∧ (parseMethodDescriptor yX7_decimal.desc).map (fun d => d.parameters.length) = some 2 := ⟨by decide +kernel, by decide +kernel, by decide +kernel⟩
theorem ctX7_decimal (l : Launch) (E : Nat → Nat) (D : va_G) (dA : Nat → ClassId) (lo : Nat) (H0 : Heap) (fu : Nat) (a0 : Nat) (a1 : Int32) (a2 : Int32) (M : Mm) (out : Int32 × Mm) (h : fX7_decimal fu a0 a1 a2 M = some out) : Ct l E D dA lo H0 yX7_decimal cX7_decimal 6 (some .int) 1 21 [pR (some a0), pI a1, pI a2] M (some (pI out.1)) out.2 := by
  refine ct_of (by decide +kernel) (Nat.le_of_ble_eq_true rfl) ?_
  intro x hl he hd ha ho hh hn hin X hE
  exact wX7_decimal X hE hn fu a0 a1 a2 M h
/-! WebHost$Requests.noteWords(II)V -/
def fX7_noteWords_L110 (fu : Nat) (k5 : Nat → Int32 → Int32 → Int32 → Mm → Option (Mm)) (a0 : Nat) (a2 : Int32) (a3 : Int32) (a4 : Int32)  (M : Mm) : Option (Mm) :=
    k5 a0 a2 a3 (a4 + (1 : Int32)) M
def fX7_noteWords_L102 (fu : Nat) (k5 : Nat → Int32 → Int32 → Int32 → Mm → Option (Mm)) (a0 : Nat) (a2 : Int32) (a4 : Int32) (s0 : Option Nat) (s1 : Int32) (M : Mm) : Option (Mm) :=
    (pZ M 7 465 s0 s1).bind fun M1 =>
    fX7_noteWords_L110 fu k5 a0 a2 (a4 + (1 : Int32)) a4 M1
def fX7_noteWords_L97 (fu : Nat) (k5 : Nat → Int32 → Int32 → Int32 → Mm → Option (Mm)) (a0 : Nat) (a2 : Int32) (a4 : Int32) (s0 : Option Nat) (M : Mm) : Option (Mm) :=
    fX7_noteWords_L102 fu k5 a0 a2 a4 s0 (1 : Int32) M
def fX7_noteWords_L74 (fu : Nat) (k5 : Nat → Int32 → Int32 → Int32 → Mm → Option (Mm)) (a0 : Nat) (a2 : Int32) (a3 : Int32) (a4 : Int32) (s0 : Option Nat) (s1 : Int32) (M : Mm) : Option (Mm) :=
    (pZ M 7 464 s0 s1).bind fun M1 =>
    (gI M1 7 465 (some a0)).bind fun v2 =>
    if v2 = 0 then (
    (rc M1 7 (some a0)).bind fun q3 =>
    b2 (fX7_isWord fu q3 a3 a4 (some 11) M1) fun v5 M4 =>
    if v5 = 0 then (
    fX7_noteWords_L102 fu k5 a0 a2 a4 (some a0) (0 : Int32) M4)
    else (
    fX7_noteWords_L97 fu k5 a0 a2 a4 (some a0) M4))
    else (
    fX7_noteWords_L97 fu k5 a0 a2 a4 (some a0) M1)
def fX7_noteWords_L69 (fu : Nat) (k5 : Nat → Int32 → Int32 → Int32 → Mm → Option (Mm)) (a0 : Nat) (a2 : Int32) (a3 : Int32) (a4 : Int32) (s0 : Option Nat) (M : Mm) : Option (Mm) :=
    fX7_noteWords_L74 fu k5 a0 a2 a3 a4 s0 (1 : Int32) M
def fX7_noteWords_L49 (fu : Nat) (k5 : Nat → Int32 → Int32 → Int32 → Mm → Option (Mm)) (a0 : Nat) (a2 : Int32) (a3 : Int32) (a4 : Int32)  (M : Mm) : Option (Mm) :=
    (gI M 7 464 (some a0)).bind fun v1 =>
    if v1 = 0 then (
    (rc M 7 (some a0)).bind fun q2 =>
    b2 (fX7_isWord fu q2 a3 a4 (some 10) M) fun v4 M3 =>
    if v4 = 0 then (
    fX7_noteWords_L74 fu k5 a0 a2 a3 a4 (some a0) (0 : Int32) M3)
    else (
    fX7_noteWords_L69 fu k5 a0 a2 a3 a4 (some a0) M3))
    else (
    fX7_noteWords_L69 fu k5 a0 a2 a3 a4 (some a0) M)
def fX7_noteWords_L5 (fu : Nat)  : Nat → Nat → Int32 → Int32 → Int32 → Mm → Option (Mm)
  | 0, _, _, _, _, _ => none
  | n + 1, a0, a2, a3, a4, M =>
    if a2 < a4 then (
    some M)
    else (
    if a2 ≤ a4 then (
    fX7_noteWords_L49 fu (fun b0 b2 b3 b4 M => fX7_noteWords_L5 fu  n b0 b2 b3 b4 M) a0 a2 a3 a4 M)
    else (
    (gR M 7 450 (some a0)).bind fun v1 =>
    b2 (fX11_one fu  v1 a4 M) fun v3 M2 =>
    if v3 = (44 : Int32) then (
    fX7_noteWords_L49 fu (fun b0 b2 b3 b4 M => fX7_noteWords_L5 fu  n b0 b2 b3 b4 M) a0 a2 a3 a4 M2)
    else (
    (gR M2 7 450 (some a0)).bind fun v4 =>
    b2 (fX11_one fu  v4 a4 M2) fun v6 M5 =>
    b2 (fX7_isBlank fu  v6 M5) fun v8 M7 =>
    if v8 = 0 then (
    fX7_noteWords_L110 fu (fun b0 b2 b3 b4 M => fX7_noteWords_L5 fu  n b0 b2 b3 b4 M) a0 a2 a3 a4 M7)
    else (
    fX7_noteWords_L49 fu (fun b0 b2 b3 b4 M => fX7_noteWords_L5 fu  n b0 b2 b3 b4 M) a0 a2 a3 a4 M7))))
def fX7_noteWords (fu : Nat)  (a0 : Nat) (a1 : Int32) (a2 : Int32)  (M : Mm) : Option (Mm) :=
    fX7_noteWords_L5 fu  fu a0 a2 a1 a1 M
theorem dX7_noteWords_0 : decode cX7_noteWords 0 = .ok (.iload_n 1, 1) := by decide +kernel
theorem dX7_noteWords_1 : decode cX7_noteWords 1 = .ok (.istore_n 3, 1) := by decide +kernel
theorem dX7_noteWords_2 : decode cX7_noteWords 2 = .ok (.iload_n 1, 1) := by decide +kernel
theorem dX7_noteWords_3 : decode cX7_noteWords 3 = .ok (.istore 4, 2) := by decide +kernel
theorem dX7_noteWords_5 : decode cX7_noteWords 5 = .ok (.iload 4, 2) := by decide +kernel
theorem dX7_noteWords_7 : decode cX7_noteWords 7 = .ok (.iload_n 2, 1) := by decide +kernel
theorem dX7_noteWords_8 : decode cX7_noteWords 8 = .ok (.if_icmp .gt 108, 3) := by decide +kernel
theorem dX7_noteWords_11 : decode cX7_noteWords 11 = .ok (.iload 4, 2) := by decide +kernel
theorem dX7_noteWords_13 : decode cX7_noteWords 13 = .ok (.iload_n 2, 1) := by decide +kernel
theorem dX7_noteWords_14 : decode cX7_noteWords 14 = .ok (.if_icmp .ge 35, 3) := by decide +kernel
theorem dX7_noteWords_17 : decode cX7_noteWords 17 = .ok (.aload_n 0, 1) := by decide +kernel
theorem dX7_noteWords_18 : decode cX7_noteWords 18 = .ok (.getfield 21, 3) := by decide +kernel
theorem dX7_noteWords_21 : decode cX7_noteWords 21 = .ok (.iload 4, 2) := by decide +kernel
theorem dX7_noteWords_23 : decode cX7_noteWords 23 = .ok (.invokestatic 97, 3) := by decide +kernel
theorem dX7_noteWords_26 : decode cX7_noteWords 26 = .ok (.bipush 44, 2) := by decide +kernel
theorem dX7_noteWords_28 : decode cX7_noteWords 28 = .ok (.if_icmp .eq 21, 3) := by decide +kernel
theorem dX7_noteWords_31 : decode cX7_noteWords 31 = .ok (.aload_n 0, 1) := by decide +kernel
theorem dX7_noteWords_32 : decode cX7_noteWords 32 = .ok (.getfield 21, 3) := by decide +kernel
theorem dX7_noteWords_35 : decode cX7_noteWords 35 = .ok (.iload 4, 2) := by decide +kernel
theorem dX7_noteWords_37 : decode cX7_noteWords 37 = .ok (.invokestatic 97, 3) := by decide +kernel
theorem dX7_noteWords_40 : decode cX7_noteWords 40 = .ok (.invokestatic 168, 3) := by decide +kernel
theorem dX7_noteWords_43 : decode cX7_noteWords 43 = .ok (.ifCond .ne 6, 3) := by decide +kernel
theorem dX7_noteWords_46 : decode cX7_noteWords 46 = .ok (.goto 64, 3) := by decide +kernel
theorem dX7_noteWords_49 : decode cX7_noteWords 49 = .ok (.aload_n 0, 1) := by decide +kernel
theorem dX7_noteWords_50 : decode cX7_noteWords 50 = .ok (.aload_n 0, 1) := by decide +kernel
theorem dX7_noteWords_51 : decode cX7_noteWords 51 = .ok (.getfield 119, 3) := by decide +kernel
theorem dX7_noteWords_54 : decode cX7_noteWords 54 = .ok (.ifCond .ne 15, 3) := by decide +kernel
theorem dX7_noteWords_57 : decode cX7_noteWords 57 = .ok (.aload_n 0, 1) := by decide +kernel
theorem dX7_noteWords_58 : decode cX7_noteWords 58 = .ok (.iload_n 3, 1) := by decide +kernel
theorem dX7_noteWords_59 : decode cX7_noteWords 59 = .ok (.iload 4, 2) := by decide +kernel
theorem dX7_noteWords_61 : decode cX7_noteWords 61 = .ok (.ldc 206, 2) := by decide +kernel
theorem dX7_noteWords_63 : decode cX7_noteWords 63 = .ok (.invokevirtual 182, 3) := by decide +kernel
theorem dX7_noteWords_66 : decode cX7_noteWords 66 = .ok (.ifCond .eq 7, 3) := by decide +kernel
theorem dX7_noteWords_69 : decode cX7_noteWords 69 = .ok (.iconst 1, 1) := by decide +kernel
theorem dX7_noteWords_70 : decode cX7_noteWords 70 = .ok (.goto 4, 3) := by decide +kernel
theorem dX7_noteWords_73 : decode cX7_noteWords 73 = .ok (.iconst 0, 1) := by decide +kernel
theorem dX7_noteWords_74 : decode cX7_noteWords 74 = .ok (.putfield 119, 3) := by decide +kernel
theorem dX7_noteWords_77 : decode cX7_noteWords 77 = .ok (.aload_n 0, 1) := by decide +kernel
theorem dX7_noteWords_78 : decode cX7_noteWords 78 = .ok (.aload_n 0, 1) := by decide +kernel
theorem dX7_noteWords_79 : decode cX7_noteWords 79 = .ok (.getfield 122, 3) := by decide +kernel
theorem dX7_noteWords_82 : decode cX7_noteWords 82 = .ok (.ifCond .ne 15, 3) := by decide +kernel
theorem dX7_noteWords_85 : decode cX7_noteWords 85 = .ok (.aload_n 0, 1) := by decide +kernel
theorem dX7_noteWords_86 : decode cX7_noteWords 86 = .ok (.iload_n 3, 1) := by decide +kernel
theorem dX7_noteWords_87 : decode cX7_noteWords 87 = .ok (.iload 4, 2) := by decide +kernel
theorem dX7_noteWords_89 : decode cX7_noteWords 89 = .ok (.ldc 208, 2) := by decide +kernel
theorem dX7_noteWords_91 : decode cX7_noteWords 91 = .ok (.invokevirtual 182, 3) := by decide +kernel
theorem dX7_noteWords_94 : decode cX7_noteWords 94 = .ok (.ifCond .eq 7, 3) := by decide +kernel
theorem dX7_noteWords_97 : decode cX7_noteWords 97 = .ok (.iconst 1, 1) := by decide +kernel
theorem dX7_noteWords_98 : decode cX7_noteWords 98 = .ok (.goto 4, 3) := by decide +kernel
theorem dX7_noteWords_101 : decode cX7_noteWords 101 = .ok (.iconst 0, 1) := by decide +kernel
theorem dX7_noteWords_102 : decode cX7_noteWords 102 = .ok (.putfield 122, 3) := by decide +kernel
theorem dX7_noteWords_105 : decode cX7_noteWords 105 = .ok (.iload 4, 2) := by decide +kernel
theorem dX7_noteWords_107 : decode cX7_noteWords 107 = .ok (.iconst 1, 1) := by decide +kernel
theorem dX7_noteWords_108 : decode cX7_noteWords 108 = .ok (.iadd, 1) := by decide +kernel
theorem dX7_noteWords_109 : decode cX7_noteWords 109 = .ok (.istore_n 3, 1) := by decide +kernel
theorem dX7_noteWords_110 : decode cX7_noteWords 110 = .ok (.iinc 4 1, 3) := by decide +kernel
theorem dX7_noteWords_113 : decode cX7_noteWords 113 = .ok (.goto (-108), 3) := by decide +kernel
theorem dX7_noteWords_116 : decode cX7_noteWords 116 = .ok (.return_, 1) := by decide +kernel
theorem wX7_noteWords_L110 {x : GX} {n0 sl0 : Nat} (X : Cx x cX7_noteWords RX7 none n0 sl0 6 131) {out : Mm} (hE : Ends x n0 sl0 none out) (hn : xn x = 5) (fu : Nat) (k5 : Nat → Int32 → Int32 → Int32 → Mm → Option (Mm)) (hk5 : ∀ (b0 : Nat) (b2 : Int32) (b3 : Int32) (b4 : Int32)  (M : Mm), k5 b0 b2 b3 b4 M = some out → Gw x M 5 [(0, pR (some b0)), (2, pI b2), (3, pI b3), (4, pI b4)] []) (a0 : Nat) (a2 : Int32) (a3 : Int32) (a4 : Int32)  (M : Mm) (h : fX7_noteWords_L110 fu k5 a0 a2 a3 a4 M = some out) : Gw x M 110 [(0, pR (some a0)), (2, pI a2), (3, pI a3), (4, pI a4)] [] := by
  unfold fX7_noteWords_L110 at h
  refine g_iinc X (pc := 110) 3 [(4, pI (a4 + (1 : Int32))), (0, pR (some a0)), (2, pI a2), (3, pI a3)] rfl (iinc_e (by decide)) (lt_n hn (by decide)) rfl dX7_noteWords_110 ?_
  refine g_goto X (pc := 113) (tgt := 5) dX7_noteWords_113 (by decide) ?_
  refine g_sub [1, 2, 3, 0] [(0, pR (some a0)), (2, pI a2), (3, pI a3), (4, pI (a4 + (1 : Int32)))] rfl ?_
  exact hk5 a0 a2 a3 (a4 + (1 : Int32)) M h
theorem wX7_noteWords_L102 {x : GX} {n0 sl0 : Nat} (X : Cx x cX7_noteWords RX7 none n0 sl0 6 131) {out : Mm} (hE : Ends x n0 sl0 none out) (hn : xn x = 5) (fu : Nat) (k5 : Nat → Int32 → Int32 → Int32 → Mm → Option (Mm)) (hk5 : ∀ (b0 : Nat) (b2 : Int32) (b3 : Int32) (b4 : Int32)  (M : Mm), k5 b0 b2 b3 b4 M = some out → Gw x M 5 [(0, pR (some b0)), (2, pI b2), (3, pI b3), (4, pI b4)] []) (a0 : Nat) (a2 : Int32) (a4 : Int32) (s0 : Option Nat) (s1 : Int32) (M : Mm) (h : fX7_noteWords_L102 fu k5 a0 a2 a4 s0 s1 M = some out) : Gw x M 102 [(0, pR (some a0)), (2, pI a2), (4, pI a4)] [pI s1, pR s0] := by
  unfold fX7_noteWords_L102 at h
  obtain ⟨M1, eM1, h⟩ := bd h
  refine g_putZ X (pc := 102) fk_7_17 rfl rfl rfl eM1 tb_273 (Or.inl rfl) dX7_noteWords_102 ?_
  refine g_iload X (pc := 105) 2 rfl dX7_noteWords_105 ?_
  refine g_iconst X (pc := 107) (v := 1) dX7_noteWords_107 (by decide) ?_
  refine g_iadd X (pc := 108) dX7_noteWords_108 ?_
  refine g_istore_n X (pc := 109) [(3, pI (a4 + (1 : Int32))), (0, pR (some a0)), (2, pI a2), (4, pI a4)] rfl (lt_n hn (by decide)) rfl dX7_noteWords_109 ?_
  refine g_sub [1, 2, 0, 3] [(0, pR (some a0)), (2, pI a2), (3, pI (a4 + (1 : Int32))), (4, pI a4)] rfl ?_
  exact wX7_noteWords_L110 X hE hn fu k5 hk5 a0 a2 (a4 + (1 : Int32)) a4 M1 h
theorem wX7_noteWords_L97 {x : GX} {n0 sl0 : Nat} (X : Cx x cX7_noteWords RX7 none n0 sl0 6 131) {out : Mm} (hE : Ends x n0 sl0 none out) (hn : xn x = 5) (fu : Nat) (k5 : Nat → Int32 → Int32 → Int32 → Mm → Option (Mm)) (hk5 : ∀ (b0 : Nat) (b2 : Int32) (b3 : Int32) (b4 : Int32)  (M : Mm), k5 b0 b2 b3 b4 M = some out → Gw x M 5 [(0, pR (some b0)), (2, pI b2), (3, pI b3), (4, pI b4)] []) (a0 : Nat) (a2 : Int32) (a4 : Int32) (s0 : Option Nat) (M : Mm) (h : fX7_noteWords_L97 fu k5 a0 a2 a4 s0 M = some out) : Gw x M 97 [(0, pR (some a0)), (2, pI a2), (4, pI a4)] [pR s0] := by
  unfold fX7_noteWords_L97 at h
  refine g_iconst X (pc := 97) (v := 1) dX7_noteWords_97 (by decide) ?_
  refine g_goto X (pc := 98) (tgt := 102) dX7_noteWords_98 (by decide) ?_
  exact wX7_noteWords_L102 X hE hn fu k5 hk5 a0 a2 a4 s0 (1 : Int32) M h
theorem wX7_noteWords_L74 {x : GX} {n0 sl0 : Nat} (X : Cx x cX7_noteWords RX7 none n0 sl0 6 131) {out : Mm} (hE : Ends x n0 sl0 none out) (hn : xn x = 5) (fu : Nat) (k5 : Nat → Int32 → Int32 → Int32 → Mm → Option (Mm)) (hk5 : ∀ (b0 : Nat) (b2 : Int32) (b3 : Int32) (b4 : Int32)  (M : Mm), k5 b0 b2 b3 b4 M = some out → Gw x M 5 [(0, pR (some b0)), (2, pI b2), (3, pI b3), (4, pI b4)] []) (a0 : Nat) (a2 : Int32) (a3 : Int32) (a4 : Int32) (s0 : Option Nat) (s1 : Int32) (M : Mm) (h : fX7_noteWords_L74 fu k5 a0 a2 a3 a4 s0 s1 M = some out) : Gw x M 74 [(0, pR (some a0)), (2, pI a2), (3, pI a3), (4, pI a4)] [pI s1, pR s0] := by
  unfold fX7_noteWords_L74 at h
  obtain ⟨M1, eM1, h⟩ := bd h
  refine g_putZ X (pc := 74) fk_7_16 rfl rfl rfl eM1 tb_272 (Or.inl rfl) dX7_noteWords_74 ?_
  refine g_aload_n X (pc := 77) 0 rfl rfl dX7_noteWords_77 ?_
  refine g_aload_n X (pc := 78) 0 rfl rfl dX7_noteWords_78 ?_
  obtain ⟨v2, ev2, h⟩ := bd h
  refine g_getI X (pc := 79) fk_7_17 rfl rfl ev2 tb_273 dX7_noteWords_79 ?_
  refine g_if_ne X (pc := 82) (tgt := 97) dX7_noteWords_82 (by decide) (fun hc => ?_) (fun hc => ?_)
  · have h := (if_neg hc).symm.trans h
    refine g_sub [0, 1, 3] [(0, pR (some a0)), (2, pI a2), (4, pI a4)] rfl ?_
    exact wX7_noteWords_L97 X hE hn fu k5 hk5 a0 a2 a4 (some a0) M1 h
  · have h := (if_pos hc).symm.trans h
    refine g_aload_n X (pc := 85) 0 rfl rfl dX7_noteWords_85 ?_
    refine g_iload_n X (pc := 86) 2 rfl rfl dX7_noteWords_86 ?_
    refine g_iload X (pc := 87) 3 rfl dX7_noteWords_87 ?_
    refine g_ldcS X (pc := 89) (List.mem_of_getElem? (i := 11) rfl) dX7_noteWords_89 ?_
    obtain ⟨q3, eq3, h⟩ := bd h
    obtain ⟨v5, M4, eM4, h⟩ := b2d h
    refine g_callV X (pc := 91) (M' := M4) (ro := some (pI v5)) (c := 7) rfl (by decide) (as := [pI a3, pI a4, pR (some 11)]) (as' := [pR (some 11), pI a4, pI a3]) (st := [pR (some a0)]) eq3 (ctX7_isWord _ _ _ _ _ _ fu q3 a3 a4 (some 11) M1 _ eM4) tb_1336 tb_1333 tb_1335 ts_48 tb_7 ⟨rfl, hyX7_isWord⟩ rfl rfl ⟨by decide, by decide⟩ (Nat.le_of_ble_eq_true rfl) dX7_noteWords_91 ?_
    refine g_if_eq X (pc := 94) (tgt := 101) dX7_noteWords_94 (by decide) (fun hc => ?_) (fun hc => ?_)
    · have h := (if_pos hc).symm.trans h
      refine g_iconst X (pc := 101) (v := 0) dX7_noteWords_101 (by decide) ?_
      refine g_sub [0, 1, 3] [(0, pR (some a0)), (2, pI a2), (4, pI a4)] rfl ?_
      exact wX7_noteWords_L102 X hE hn fu k5 hk5 a0 a2 a4 (some a0) (0 : Int32) M4 h
    · have h := (if_neg hc).symm.trans h
      refine g_sub [0, 1, 3] [(0, pR (some a0)), (2, pI a2), (4, pI a4)] rfl ?_
      exact wX7_noteWords_L97 X hE hn fu k5 hk5 a0 a2 a4 (some a0) M4 h
theorem wX7_noteWords_L69 {x : GX} {n0 sl0 : Nat} (X : Cx x cX7_noteWords RX7 none n0 sl0 6 131) {out : Mm} (hE : Ends x n0 sl0 none out) (hn : xn x = 5) (fu : Nat) (k5 : Nat → Int32 → Int32 → Int32 → Mm → Option (Mm)) (hk5 : ∀ (b0 : Nat) (b2 : Int32) (b3 : Int32) (b4 : Int32)  (M : Mm), k5 b0 b2 b3 b4 M = some out → Gw x M 5 [(0, pR (some b0)), (2, pI b2), (3, pI b3), (4, pI b4)] []) (a0 : Nat) (a2 : Int32) (a3 : Int32) (a4 : Int32) (s0 : Option Nat) (M : Mm) (h : fX7_noteWords_L69 fu k5 a0 a2 a3 a4 s0 M = some out) : Gw x M 69 [(0, pR (some a0)), (2, pI a2), (3, pI a3), (4, pI a4)] [pR s0] := by
  unfold fX7_noteWords_L69 at h
  refine g_iconst X (pc := 69) (v := 1) dX7_noteWords_69 (by decide) ?_
  refine g_goto X (pc := 70) (tgt := 74) dX7_noteWords_70 (by decide) ?_
  exact wX7_noteWords_L74 X hE hn fu k5 hk5 a0 a2 a3 a4 s0 (1 : Int32) M h
theorem wX7_noteWords_L49 {x : GX} {n0 sl0 : Nat} (X : Cx x cX7_noteWords RX7 none n0 sl0 6 131) {out : Mm} (hE : Ends x n0 sl0 none out) (hn : xn x = 5) (fu : Nat) (k5 : Nat → Int32 → Int32 → Int32 → Mm → Option (Mm)) (hk5 : ∀ (b0 : Nat) (b2 : Int32) (b3 : Int32) (b4 : Int32)  (M : Mm), k5 b0 b2 b3 b4 M = some out → Gw x M 5 [(0, pR (some b0)), (2, pI b2), (3, pI b3), (4, pI b4)] []) (a0 : Nat) (a2 : Int32) (a3 : Int32) (a4 : Int32)  (M : Mm) (h : fX7_noteWords_L49 fu k5 a0 a2 a3 a4 M = some out) : Gw x M 49 [(0, pR (some a0)), (2, pI a2), (3, pI a3), (4, pI a4)] [] := by
  unfold fX7_noteWords_L49 at h
  refine g_aload_n X (pc := 49) 0 rfl rfl dX7_noteWords_49 ?_
  refine g_aload_n X (pc := 50) 0 rfl rfl dX7_noteWords_50 ?_
  obtain ⟨v1, ev1, h⟩ := bd h
  refine g_getI X (pc := 51) fk_7_16 rfl rfl ev1 tb_272 dX7_noteWords_51 ?_
  refine g_if_ne X (pc := 54) (tgt := 69) dX7_noteWords_54 (by decide) (fun hc => ?_) (fun hc => ?_)
  · have h := (if_neg hc).symm.trans h
    exact wX7_noteWords_L69 X hE hn fu k5 hk5 a0 a2 a3 a4 (some a0) M h
  · have h := (if_pos hc).symm.trans h
    refine g_aload_n X (pc := 57) 0 rfl rfl dX7_noteWords_57 ?_
    refine g_iload_n X (pc := 58) 2 rfl rfl dX7_noteWords_58 ?_
    refine g_iload X (pc := 59) 3 rfl dX7_noteWords_59 ?_
    refine g_ldcS X (pc := 61) (List.mem_of_getElem? (i := 10) rfl) dX7_noteWords_61 ?_
    obtain ⟨q2, eq2, h⟩ := bd h
    obtain ⟨v4, M3, eM3, h⟩ := b2d h
    refine g_callV X (pc := 63) (M' := M3) (ro := some (pI v4)) (c := 7) rfl (by decide) (as := [pI a3, pI a4, pR (some 10)]) (as' := [pR (some 10), pI a4, pI a3]) (st := [pR (some a0)]) eq2 (ctX7_isWord _ _ _ _ _ _ fu q2 a3 a4 (some 10) M _ eM3) tb_1336 tb_1333 tb_1335 ts_48 tb_7 ⟨rfl, hyX7_isWord⟩ rfl rfl ⟨by decide, by decide⟩ (Nat.le_of_ble_eq_true rfl) dX7_noteWords_63 ?_
    refine g_if_eq X (pc := 66) (tgt := 73) dX7_noteWords_66 (by decide) (fun hc => ?_) (fun hc => ?_)
    · have h := (if_pos hc).symm.trans h
      refine g_iconst X (pc := 73) (v := 0) dX7_noteWords_73 (by decide) ?_
      exact wX7_noteWords_L74 X hE hn fu k5 hk5 a0 a2 a3 a4 (some a0) (0 : Int32) M3 h
    · have h := (if_neg hc).symm.trans h
      exact wX7_noteWords_L69 X hE hn fu k5 hk5 a0 a2 a3 a4 (some a0) M3 h
theorem wX7_noteWords_L5 {x : GX} {n0 sl0 : Nat} (X : Cx x cX7_noteWords RX7 none n0 sl0 6 131) {out : Mm} (hE : Ends x n0 sl0 none out) (hn : xn x = 5) (fu : Nat)   : ∀ (n : Nat) (a0 : Nat) (a2 : Int32) (a3 : Int32) (a4 : Int32)  (M : Mm), fX7_noteWords_L5 fu  n a0 a2 a3 a4 M = some out → Gw x M 5 [(0, pR (some a0)), (2, pI a2), (3, pI a3), (4, pI a4)] [] := by
  intro n
  induction n with
  | zero =>
    intro a0 a2 a3 a4 M h
    have h : (none : Option (Mm)) = some out := h
    cases h
  | succ n ih =>
    intro a0 a2 a3 a4 M h
    rw [fX7_noteWords_L5] at h
    refine g_iload X (pc := 5) 3 rfl dX7_noteWords_5 ?_
    refine g_iload_n X (pc := 7) 1 rfl rfl dX7_noteWords_7 ?_
    refine g_icmp_gt X (pc := 8) (tgt := 116) dX7_noteWords_8 (by decide) (fun hc => ?_) (fun hc => ?_)
    · have h := (if_pos hc).symm.trans h
      obtain rfl := Option.some.inj h
      exact g_return X hE dX7_noteWords_116
    · have h := (if_neg hc).symm.trans h
      refine g_iload X (pc := 11) 3 rfl dX7_noteWords_11 ?_
      refine g_iload_n X (pc := 13) 1 rfl rfl dX7_noteWords_13 ?_
      refine g_icmp_ge X (pc := 14) (tgt := 49) dX7_noteWords_14 (by decide) (fun hc => ?_) (fun hc => ?_)
      · have h := (if_pos hc).symm.trans h
        exact wX7_noteWords_L49 X hE hn fu (fun b0 b2 b3 b4 M => fX7_noteWords_L5 fu  n b0 b2 b3 b4 M) ih a0 a2 a3 a4 M h
      · have h := (if_neg hc).symm.trans h
        refine g_aload_n X (pc := 17) 0 rfl rfl dX7_noteWords_17 ?_
        obtain ⟨v1, ev1, h⟩ := bd h
        refine g_getR X (pc := 18) fk_7_2 rfl rfl ev1 tb_258 dX7_noteWords_18 ?_
        refine g_iload X (pc := 21) 3 rfl dX7_noteWords_21 ?_
        obtain ⟨v3, M2, eM2, h⟩ := b2d h
        refine g_callSN X (pc := 23) (M' := M2) (ro := some (pI v3)) (as := [pR v1, pI a4]) (as' := [pI a4, pR v1]) (st := []) (ctX11_one _ _ _ _ _ _ fu  v1 a4 M _ eM2) tb_415 (List.mem_of_getElem? (i := 24) rfl) tb_414 tb_1 hyX11_one rfl rfl ⟨by decide, by decide⟩ (Nat.le_of_ble_eq_true rfl) dX7_noteWords_23 ?_
        refine g_bipush X (pc := 26) (v := 44) dX7_noteWords_26 (by decide) ?_
        refine g_icmp_eq X (pc := 28) (tgt := 49) dX7_noteWords_28 (by decide) (fun hc => ?_) (fun hc => ?_)
        · have h := (if_pos hc).symm.trans h
          exact wX7_noteWords_L49 X hE hn fu (fun b0 b2 b3 b4 M => fX7_noteWords_L5 fu  n b0 b2 b3 b4 M) ih a0 a2 a3 a4 M2 h
        · have h := (if_neg hc).symm.trans h
          refine g_aload_n X (pc := 31) 0 rfl rfl dX7_noteWords_31 ?_
          obtain ⟨v4, ev4, h⟩ := bd h
          refine g_getR X (pc := 32) fk_7_2 rfl rfl ev4 tb_258 dX7_noteWords_32 ?_
          refine g_iload X (pc := 35) 3 rfl dX7_noteWords_35 ?_
          obtain ⟨v6, M5, eM5, h⟩ := b2d h
          refine g_callSN X (pc := 37) (M' := M5) (ro := some (pI v6)) (as := [pR v4, pI a4]) (as' := [pI a4, pR v4]) (st := []) (ctX11_one _ _ _ _ _ _ fu  v4 a4 M2 _ eM5) tb_415 (List.mem_of_getElem? (i := 24) rfl) tb_414 tb_1 hyX11_one rfl rfl ⟨by decide, by decide⟩ (Nat.le_of_ble_eq_true rfl) dX7_noteWords_37 ?_
          obtain ⟨v8, M7, eM7, h⟩ := b2d h
          refine g_callS X (pc := 40) (M' := M7) (ro := some (pI v8)) (as := [pI v6]) (as' := [pI v6]) (st := []) (ctX7_isBlank _ _ _ _ _ _ fu  v6 M5 _ eM7) tb_1327 tb_1325 tb_1326 tb_7 hyX7_isBlank rfl rfl ⟨by decide, by decide⟩ (Nat.le_of_ble_eq_true rfl) dX7_noteWords_40 ?_
          refine g_if_ne X (pc := 43) (tgt := 49) dX7_noteWords_43 (by decide) (fun hc => ?_) (fun hc => ?_)
          · have h := (if_neg hc).symm.trans h
            exact wX7_noteWords_L49 X hE hn fu (fun b0 b2 b3 b4 M => fX7_noteWords_L5 fu  n b0 b2 b3 b4 M) ih a0 a2 a3 a4 M7 h
          · have h := (if_pos hc).symm.trans h
            refine g_goto X (pc := 46) (tgt := 110) dX7_noteWords_46 (by decide) ?_
            exact wX7_noteWords_L110 X hE hn fu (fun b0 b2 b3 b4 M => fX7_noteWords_L5 fu  n b0 b2 b3 b4 M) ih a0 a2 a3 a4 M7 h
theorem wX7_noteWords {x : GX} {n0 sl0 : Nat} (X : Cx x cX7_noteWords RX7 none n0 sl0 6 131) {out : Mm} (hE : Ends x n0 sl0 none out) (hn : xn x = 5) (fu : Nat)   (a0 : Nat) (a1 : Int32) (a2 : Int32)  (M : Mm) (h : fX7_noteWords fu  a0 a1 a2 M = some out) : Gw x M 0 [(0, pR (some a0)), (1, pI a1), (2, pI a2)] [] := by
  unfold fX7_noteWords at h
  refine g_iload_n X (pc := 0) 1 rfl rfl dX7_noteWords_0 ?_
  refine g_istore_n X (pc := 1) [(3, pI a1), (0, pR (some a0)), (1, pI a1), (2, pI a2)] rfl (lt_n hn (by decide)) rfl dX7_noteWords_1 ?_
  refine g_iload_n X (pc := 2) 2 rfl rfl dX7_noteWords_2 ?_
  refine g_istore X (pc := 3) [(4, pI a1), (3, pI a1), (0, pR (some a0)), (1, pI a1), (2, pI a2)] (lt_n hn (by decide)) rfl dX7_noteWords_3 ?_
  refine g_sub [2, 4, 1, 0] [(0, pR (some a0)), (2, pI a2), (3, pI a1), (4, pI a1)] rfl ?_
  exact wX7_noteWords_L5 X hE hn fu   fu a0 a2 a1 a1 M h
theorem hyX7_noteWords : yX7_noteWords.cls ≠ "java/lang/invoke/MethodHandle" ∧ yX7_noteWords.cls ≠ "java/lang/invoke/VarHandle" ∧ (parseMethodDescriptor yX7_noteWords.desc).map (fun d => d.parameters.length) = some 2 := ⟨by decide +kernel, by decide +kernel, by decide +kernel⟩
theorem ctX7_noteWords (l : Launch) (E : Nat → Nat) (D : va_G) (dA : Nat → ClassId) (lo : Nat) (H0 : Heap) (fu : Nat) (a0 : Nat) (a1 : Int32) (a2 : Int32) (M : Mm) (out : Mm) (h : fX7_noteWords fu a0 a1 a2 M = some out) : Ct l E D dA lo H0 yX7_noteWords cX7_noteWords 5 none 6 131 [pR (some a0), pI a1, pI a2] M none out := by
  refine ct_of (by decide +kernel) (Nat.le_of_ble_eq_true rfl) ?_
  intro x hl he hd ha ho hh hn hin X hE
  exact wX7_noteWords X hE hn fu a0 a1 a2 M h
/-! WebHost$Requests.note(IIII)V -/
def fX7_note (fu : Nat)  (a0 : Nat) (a1 : Int32) (a2 : Int32) (a3 : Int32) (a4 : Int32)  (M : Mm) : Option (Mm) :=
    (rc M 7 (some a0)).bind fun q1 =>
    b2 (fX7_isWord fu q1 a1 a2 (some 5) M) fun v3 M2 =>
    if v3 = 0 then (
    (rc M2 7 (some a0)).bind fun q4 =>
    b2 (fX7_isWord fu q4 a1 a2 (some 6) M2) fun v6 M5 =>
    if v6 = 0 then (
    (rc M5 7 (some a0)).bind fun q7 =>
    b2 (fX7_isWord fu q7 a1 a2 (some 7) M5) fun v9 M8 =>
    if v9 = 0 then (
    (rc M8 7 (some a0)).bind fun q10 =>
    b2 (fX7_isWord fu q10 a1 a2 (some 8) M8) fun v12 M11 =>
    if v12 = 0 then (
    (rc M11 7 (some a0)).bind fun q13 =>
    b2 (fX7_isWord fu q13 a1 a2 (some 9) M11) fun v15 M14 =>
    if v15 = 0 then (
    some M14)
    else (
    (rc M14 7 (some a0)).bind fun q16 =>
    (fX7_noteWords fu q16 a3 a4 M14).bind fun M17 =>
    some M17))
    else (
    (gI M11 7 461 (some a0)).bind fun v18 =>
    (pF M11 7 461 (some a0) (v18 + (1 : Int32))).bind fun M19 =>
    (pF M19 7 462 (some a0) a3).bind fun M20 =>
    (pF M20 7 463 (some a0) a4).bind fun M21 =>
    some M21))
    else (
    (gI M8 7 459 (some a0)).bind fun v22 =>
    (pF M8 7 459 (some a0) (v22 + (1 : Int32))).bind fun M23 =>
    (rc M23 7 (some a0)).bind fun q24 =>
    b2 (fX7_decimal fu q24 a3 a4 M23) fun v26 M25 =>
    (pF M25 7 460 (some a0) v26).bind fun M27 =>
    some M27))
    else (
    (gI M5 7 458 (some a0)).bind fun v28 =>
    (pF M5 7 458 (some a0) (v28 + (1 : Int32))).bind fun M29 =>
    some M29))
    else (
    (gI M2 7 457 (some a0)).bind fun v30 =>
    (pF M2 7 457 (some a0) (v30 + (1 : Int32))).bind fun M31 =>
    some M31)
theorem dX7_note_0 : decode cX7_note 0 = .ok (.aload_n 0, 1) := by decide +kernel
theorem dX7_note_1 : decode cX7_note 1 = .ok (.iload_n 1, 1) := by decide +kernel
theorem dX7_note_2 : decode cX7_note 2 = .ok (.iload_n 2, 1) := by decide +kernel
theorem dX7_note_3 : decode cX7_note 3 = .ok (.ldc 180, 2) := by decide +kernel
theorem dX7_note_5 : decode cX7_note 5 = .ok (.invokevirtual 182, 3) := by decide +kernel
theorem dX7_note_8 : decode cX7_note 8 = .ok (.ifCond .eq 16, 3) := by decide +kernel
theorem dX7_note_11 : decode cX7_note 11 = .ok (.aload_n 0, 1) := by decide +kernel
theorem dX7_note_12 : decode cX7_note 12 = .ok (.dup, 1) := by decide +kernel
theorem dX7_note_13 : decode cX7_note 13 = .ok (.getfield 107, 3) := by decide +kernel
theorem dX7_note_16 : decode cX7_note 16 = .ok (.iconst 1, 1) := by decide +kernel
theorem dX7_note_17 : decode cX7_note 17 = .ok (.iadd, 1) := by decide +kernel
theorem dX7_note_18 : decode cX7_note 18 = .ok (.putfield 107, 3) := by decide +kernel
theorem dX7_note_21 : decode cX7_note 21 = .ok (.goto 115, 3) := by decide +kernel
theorem dX7_note_24 : decode cX7_note 24 = .ok (.aload_n 0, 1) := by decide +kernel
theorem dX7_note_25 : decode cX7_note 25 = .ok (.iload_n 1, 1) := by decide +kernel
theorem dX7_note_26 : decode cX7_note 26 = .ok (.iload_n 2, 1) := by decide +kernel
theorem dX7_note_27 : decode cX7_note 27 = .ok (.ldc 185, 2) := by decide +kernel
theorem dX7_note_29 : decode cX7_note 29 = .ok (.invokevirtual 182, 3) := by decide +kernel
theorem dX7_note_32 : decode cX7_note 32 = .ok (.ifCond .eq 16, 3) := by decide +kernel
theorem dX7_note_35 : decode cX7_note 35 = .ok (.aload_n 0, 1) := by decide +kernel
theorem dX7_note_36 : decode cX7_note 36 = .ok (.dup, 1) := by decide +kernel
theorem dX7_note_37 : decode cX7_note 37 = .ok (.getfield 110, 3) := by decide +kernel
theorem dX7_note_40 : decode cX7_note 40 = .ok (.iconst 1, 1) := by decide +kernel
theorem dX7_note_41 : decode cX7_note 41 = .ok (.iadd, 1) := by decide +kernel
theorem dX7_note_42 : decode cX7_note 42 = .ok (.putfield 110, 3) := by decide +kernel
theorem dX7_note_45 : decode cX7_note 45 = .ok (.goto 91, 3) := by decide +kernel
theorem dX7_note_48 : decode cX7_note 48 = .ok (.aload_n 0, 1) := by decide +kernel
theorem dX7_note_49 : decode cX7_note 49 = .ok (.iload_n 1, 1) := by decide +kernel
theorem dX7_note_50 : decode cX7_note 50 = .ok (.iload_n 2, 1) := by decide +kernel
theorem dX7_note_51 : decode cX7_note 51 = .ok (.ldc 187, 2) := by decide +kernel
theorem dX7_note_53 : decode cX7_note 53 = .ok (.invokevirtual 182, 3) := by decide +kernel
theorem dX7_note_56 : decode cX7_note 56 = .ok (.ifCond .eq 27, 3) := by decide +kernel
theorem dX7_note_59 : decode cX7_note 59 = .ok (.aload_n 0, 1) := by decide +kernel
theorem dX7_note_60 : decode cX7_note 60 = .ok (.dup, 1) := by decide +kernel
theorem dX7_note_61 : decode cX7_note 61 = .ok (.getfield 113, 3) := by decide +kernel
theorem dX7_note_64 : decode cX7_note 64 = .ok (.iconst 1, 1) := by decide +kernel
theorem dX7_note_65 : decode cX7_note 65 = .ok (.iadd, 1) := by decide +kernel
theorem dX7_note_66 : decode cX7_note 66 = .ok (.putfield 113, 3) := by decide +kernel
theorem dX7_note_69 : decode cX7_note 69 = .ok (.aload_n 0, 1) := by decide +kernel
theorem dX7_note_70 : decode cX7_note 70 = .ok (.aload_n 0, 1) := by decide +kernel
theorem dX7_note_71 : decode cX7_note 71 = .ok (.iload_n 3, 1) := by decide +kernel
theorem dX7_note_72 : decode cX7_note 72 = .ok (.iload 4, 2) := by decide +kernel
theorem dX7_note_74 : decode cX7_note 74 = .ok (.invokevirtual 189, 3) := by decide +kernel
theorem dX7_note_77 : decode cX7_note 77 = .ok (.putfield 64, 3) := by decide +kernel
theorem dX7_note_80 : decode cX7_note 80 = .ok (.goto 56, 3) := by decide +kernel
theorem dX7_note_83 : decode cX7_note 83 = .ok (.aload_n 0, 1) := by decide +kernel
theorem dX7_note_84 : decode cX7_note 84 = .ok (.iload_n 1, 1) := by decide +kernel
theorem dX7_note_85 : decode cX7_note 85 = .ok (.iload_n 2, 1) := by decide +kernel
theorem dX7_note_86 : decode cX7_note 86 = .ok (.ldc 192, 2) := by decide +kernel
theorem dX7_note_88 : decode cX7_note 88 = .ok (.invokevirtual 182, 3) := by decide +kernel
theorem dX7_note_91 : decode cX7_note 91 = .ok (.ifCond .eq 27, 3) := by decide +kernel
theorem dX7_note_94 : decode cX7_note 94 = .ok (.aload_n 0, 1) := by decide +kernel
theorem dX7_note_95 : decode cX7_note 95 = .ok (.dup, 1) := by decide +kernel
theorem dX7_note_96 : decode cX7_note 96 = .ok (.getfield 116, 3) := by decide +kernel
theorem dX7_note_99 : decode cX7_note 99 = .ok (.iconst 1, 1) := by decide +kernel
theorem dX7_note_100 : decode cX7_note 100 = .ok (.iadd, 1) := by decide +kernel
theorem dX7_note_101 : decode cX7_note 101 = .ok (.putfield 116, 3) := by decide +kernel
theorem dX7_note_104 : decode cX7_note 104 = .ok (.aload_n 0, 1) := by decide +kernel
theorem dX7_note_105 : decode cX7_note 105 = .ok (.iload_n 3, 1) := by decide +kernel
theorem dX7_note_106 : decode cX7_note 106 = .ok (.putfield 194, 3) := by decide +kernel
theorem dX7_note_109 : decode cX7_note 109 = .ok (.aload_n 0, 1) := by decide +kernel
theorem dX7_note_110 : decode cX7_note 110 = .ok (.iload 4, 2) := by decide +kernel
theorem dX7_note_112 : decode cX7_note 112 = .ok (.putfield 197, 3) := by decide +kernel
theorem dX7_note_115 : decode cX7_note 115 = .ok (.goto 21, 3) := by decide +kernel
theorem dX7_note_118 : decode cX7_note 118 = .ok (.aload_n 0, 1) := by decide +kernel
theorem dX7_note_119 : decode cX7_note 119 = .ok (.iload_n 1, 1) := by decide +kernel
theorem dX7_note_120 : decode cX7_note 120 = .ok (.iload_n 2, 1) := by decide +kernel
theorem dX7_note_121 : decode cX7_note 121 = .ok (.ldc 200, 2) := by decide +kernel
theorem dX7_note_123 : decode cX7_note 123 = .ok (.invokevirtual 182, 3) := by decide +kernel
theorem dX7_note_126 : decode cX7_note 126 = .ok (.ifCond .eq 10, 3) := by decide +kernel
theorem dX7_note_129 : decode cX7_note 129 = .ok (.aload_n 0, 1) := by decide +kernel
theorem dX7_note_130 : decode cX7_note 130 = .ok (.iload_n 3, 1) := by decide +kernel
theorem dX7_note_131 : decode cX7_note 131 = .ok (.iload 4, 2) := by decide +kernel
theorem dX7_note_133 : decode cX7_note 133 = .ok (.invokevirtual 202, 3) := by decide +kernel
theorem dX7_note_136 : decode cX7_note 136 = .ok (.return_, 1) := by decide +kernel
theorem wX7_note {x : GX} {n0 sl0 : Nat} (X : Cx x cX7_note RX7 none n0 sl0 7 155) {out : Mm} (hE : Ends x n0 sl0 none out) (hn : xn x = 5) (fu : Nat)   (a0 : Nat) (a1 : Int32) (a2 : Int32) (a3 : Int32) (a4 : Int32)  (M : Mm) (h : fX7_note fu  a0 a1 a2 a3 a4 M = some out) : Gw x M 0 [(0, pR (some a0)), (1, pI a1), (2, pI a2), (3, pI a3), (4, pI a4)] [] := by
  unfold fX7_note at h
  refine g_aload_n X (pc := 0) 0 rfl rfl dX7_note_0 ?_
  refine g_iload_n X (pc := 1) 1 rfl rfl dX7_note_1 ?_
  refine g_iload_n X (pc := 2) 2 rfl rfl dX7_note_2 ?_
  refine g_ldcS X (pc := 3) (List.mem_of_getElem? (i := 5) rfl) dX7_note_3 ?_
  obtain ⟨q1, eq1, h⟩ := bd h
  obtain ⟨v3, M2, eM2, h⟩ := b2d h
  refine g_callV X (pc := 5) (M' := M2) (ro := some (pI v3)) (c := 7) rfl (by decide) (as := [pI a1, pI a2, pR (some 5)]) (as' := [pR (some 5), pI a2, pI a1]) (st := []) eq1 (ctX7_isWord _ _ _ _ _ _ fu q1 a1 a2 (some 5) M _ eM2) tb_1336 tb_1333 tb_1335 ts_48 tb_7 ⟨rfl, hyX7_isWord⟩ rfl rfl ⟨by decide, by decide⟩ (Nat.le_of_ble_eq_true rfl) dX7_note_5 ?_
  refine g_if_eq X (pc := 8) (tgt := 24) dX7_note_8 (by decide) (fun hc => ?_) (fun hc => ?_)
  · have h := (if_pos hc).symm.trans h
    refine g_aload_n X (pc := 24) 0 rfl rfl dX7_note_24 ?_
    refine g_iload_n X (pc := 25) 1 rfl rfl dX7_note_25 ?_
    refine g_iload_n X (pc := 26) 2 rfl rfl dX7_note_26 ?_
    refine g_ldcS X (pc := 27) (List.mem_of_getElem? (i := 6) rfl) dX7_note_27 ?_
    obtain ⟨q4, eq4, h⟩ := bd h
    obtain ⟨v6, M5, eM5, h⟩ := b2d h
    refine g_callV X (pc := 29) (M' := M5) (ro := some (pI v6)) (c := 7) rfl (by decide) (as := [pI a1, pI a2, pR (some 6)]) (as' := [pR (some 6), pI a2, pI a1]) (st := []) eq4 (ctX7_isWord _ _ _ _ _ _ fu q4 a1 a2 (some 6) M2 _ eM5) tb_1336 tb_1333 tb_1335 ts_48 tb_7 ⟨rfl, hyX7_isWord⟩ rfl rfl ⟨by decide, by decide⟩ (Nat.le_of_ble_eq_true rfl) dX7_note_29 ?_
    refine g_if_eq X (pc := 32) (tgt := 48) dX7_note_32 (by decide) (fun hc => ?_) (fun hc => ?_)
    · have h := (if_pos hc).symm.trans h
      refine g_aload_n X (pc := 48) 0 rfl rfl dX7_note_48 ?_
      refine g_iload_n X (pc := 49) 1 rfl rfl dX7_note_49 ?_
      refine g_iload_n X (pc := 50) 2 rfl rfl dX7_note_50 ?_
      refine g_ldcS X (pc := 51) (List.mem_of_getElem? (i := 7) rfl) dX7_note_51 ?_
      obtain ⟨q7, eq7, h⟩ := bd h
      obtain ⟨v9, M8, eM8, h⟩ := b2d h
      refine g_callV X (pc := 53) (M' := M8) (ro := some (pI v9)) (c := 7) rfl (by decide) (as := [pI a1, pI a2, pR (some 7)]) (as' := [pR (some 7), pI a2, pI a1]) (st := []) eq7 (ctX7_isWord _ _ _ _ _ _ fu q7 a1 a2 (some 7) M5 _ eM8) tb_1336 tb_1333 tb_1335 ts_48 tb_7 ⟨rfl, hyX7_isWord⟩ rfl rfl ⟨by decide, by decide⟩ (Nat.le_of_ble_eq_true rfl) dX7_note_53 ?_
      refine g_if_eq X (pc := 56) (tgt := 83) dX7_note_56 (by decide) (fun hc => ?_) (fun hc => ?_)
      · have h := (if_pos hc).symm.trans h
        refine g_aload_n X (pc := 83) 0 rfl rfl dX7_note_83 ?_
        refine g_iload_n X (pc := 84) 1 rfl rfl dX7_note_84 ?_
        refine g_iload_n X (pc := 85) 2 rfl rfl dX7_note_85 ?_
        refine g_ldcS X (pc := 86) (List.mem_of_getElem? (i := 8) rfl) dX7_note_86 ?_
        obtain ⟨q10, eq10, h⟩ := bd h
        obtain ⟨v12, M11, eM11, h⟩ := b2d h
        refine g_callV X (pc := 88) (M' := M11) (ro := some (pI v12)) (c := 7) rfl (by decide) (as := [pI a1, pI a2, pR (some 8)]) (as' := [pR (some 8), pI a2, pI a1]) (st := []) eq10 (ctX7_isWord _ _ _ _ _ _ fu q10 a1 a2 (some 8) M8 _ eM11) tb_1336 tb_1333 tb_1335 ts_48 tb_7 ⟨rfl, hyX7_isWord⟩ rfl rfl ⟨by decide, by decide⟩ (Nat.le_of_ble_eq_true rfl) dX7_note_88 ?_
        refine g_if_eq X (pc := 91) (tgt := 118) dX7_note_91 (by decide) (fun hc => ?_) (fun hc => ?_)
        · have h := (if_pos hc).symm.trans h
          refine g_aload_n X (pc := 118) 0 rfl rfl dX7_note_118 ?_
          refine g_iload_n X (pc := 119) 1 rfl rfl dX7_note_119 ?_
          refine g_iload_n X (pc := 120) 2 rfl rfl dX7_note_120 ?_
          refine g_ldcS X (pc := 121) (List.mem_of_getElem? (i := 9) rfl) dX7_note_121 ?_
          obtain ⟨q13, eq13, h⟩ := bd h
          obtain ⟨v15, M14, eM14, h⟩ := b2d h
          refine g_callV X (pc := 123) (M' := M14) (ro := some (pI v15)) (c := 7) rfl (by decide) (as := [pI a1, pI a2, pR (some 9)]) (as' := [pR (some 9), pI a2, pI a1]) (st := []) eq13 (ctX7_isWord _ _ _ _ _ _ fu q13 a1 a2 (some 9) M11 _ eM14) tb_1336 tb_1333 tb_1335 ts_48 tb_7 ⟨rfl, hyX7_isWord⟩ rfl rfl ⟨by decide, by decide⟩ (Nat.le_of_ble_eq_true rfl) dX7_note_123 ?_
          refine g_if_eq X (pc := 126) (tgt := 136) dX7_note_126 (by decide) (fun hc => ?_) (fun hc => ?_)
          · have h := (if_pos hc).symm.trans h
            obtain rfl := Option.some.inj h
            exact g_return X hE dX7_note_136
          · have h := (if_neg hc).symm.trans h
            refine g_aload_n X (pc := 129) 0 rfl rfl dX7_note_129 ?_
            refine g_iload_n X (pc := 130) 3 rfl rfl dX7_note_130 ?_
            refine g_iload X (pc := 131) 4 rfl dX7_note_131 ?_
            obtain ⟨q16, eq16, h⟩ := bd h
            obtain ⟨M17, eM17, h⟩ := bd h
            refine g_callV X (pc := 133) (M' := M17) (ro := none) (c := 7) rfl (by decide) (as := [pI a3, pI a4]) (as' := [pI a4, pI a3]) (st := []) eq16 (ctX7_noteWords _ _ _ _ _ _ fu q16 a3 a4 M14 _ eM17) tb_1348 tb_1345 tb_1347 ts_50 tb_7 ⟨rfl, hyX7_noteWords⟩ rfl rfl ⟨by decide, by decide⟩ (Nat.le_of_ble_eq_true rfl) dX7_note_133 ?_
            obtain rfl := Option.some.inj h
            exact g_return X hE dX7_note_136
        · have h := (if_neg hc).symm.trans h
          refine g_aload_n X (pc := 94) 0 rfl rfl dX7_note_94 ?_
          refine g_dup X (pc := 95) rfl dX7_note_95 ?_
          obtain ⟨v18, ev18, h⟩ := bd h
          refine g_getI X (pc := 96) fk_7_13 rfl rfl ev18 tb_269 dX7_note_96 ?_
          refine g_iconst X (pc := 99) (v := 1) dX7_note_99 (by decide) ?_
          refine g_iadd X (pc := 100) dX7_note_100 ?_
          obtain ⟨M19, eM19, h⟩ := bd h
          refine g_putI X (pc := 101) fk_7_13 rfl rfl rfl eM19 tb_269 (Or.inl rfl) dX7_note_101 ?_
          refine g_aload_n X (pc := 104) 0 rfl rfl dX7_note_104 ?_
          refine g_iload_n X (pc := 105) 3 rfl rfl dX7_note_105 ?_
          obtain ⟨M20, eM20, h⟩ := bd h
          refine g_putI X (pc := 106) fk_7_14 rfl rfl rfl eM20 tb_270 (Or.inl rfl) dX7_note_106 ?_
          refine g_aload_n X (pc := 109) 0 rfl rfl dX7_note_109 ?_
          refine g_iload X (pc := 110) 4 rfl dX7_note_110 ?_
          obtain ⟨M21, eM21, h⟩ := bd h
          refine g_putI X (pc := 112) fk_7_15 rfl rfl rfl eM21 tb_271 (Or.inl rfl) dX7_note_112 ?_
          refine g_goto X (pc := 115) (tgt := 136) dX7_note_115 (by decide) ?_
          obtain rfl := Option.some.inj h
          exact g_return X hE dX7_note_136
      · have h := (if_neg hc).symm.trans h
        refine g_aload_n X (pc := 59) 0 rfl rfl dX7_note_59 ?_
        refine g_dup X (pc := 60) rfl dX7_note_60 ?_
        obtain ⟨v22, ev22, h⟩ := bd h
        refine g_getI X (pc := 61) fk_7_11 rfl rfl ev22 tb_267 dX7_note_61 ?_
        refine g_iconst X (pc := 64) (v := 1) dX7_note_64 (by decide) ?_
        refine g_iadd X (pc := 65) dX7_note_65 ?_
        obtain ⟨M23, eM23, h⟩ := bd h
        refine g_putI X (pc := 66) fk_7_11 rfl rfl rfl eM23 tb_267 (Or.inl rfl) dX7_note_66 ?_
        refine g_aload_n X (pc := 69) 0 rfl rfl dX7_note_69 ?_
        refine g_aload_n X (pc := 70) 0 rfl rfl dX7_note_70 ?_
        refine g_iload_n X (pc := 71) 3 rfl rfl dX7_note_71 ?_
        refine g_iload X (pc := 72) 4 rfl dX7_note_72 ?_
        obtain ⟨q24, eq24, h⟩ := bd h
        obtain ⟨v26, M25, eM25, h⟩ := b2d h
        refine g_callV X (pc := 74) (M' := M25) (ro := some (pI v26)) (c := 7) rfl (by decide) (as := [pI a3, pI a4]) (as' := [pI a4, pI a3]) (st := [pR (some a0)]) eq24 (ctX7_decimal _ _ _ _ _ _ fu q24 a3 a4 M23 _ eM25) tb_1342 tb_1339 tb_1341 ts_49 tb_7 ⟨rfl, hyX7_decimal⟩ rfl rfl ⟨by decide, by decide⟩ (Nat.le_of_ble_eq_true rfl) dX7_note_74 ?_
        obtain ⟨M27, eM27, h⟩ := bd h
        refine g_putI X (pc := 77) fk_7_12 rfl rfl rfl eM27 tb_268 (Or.inl rfl) dX7_note_77 ?_
        refine g_goto X (pc := 80) (tgt := 136) dX7_note_80 (by decide) ?_
        obtain rfl := Option.some.inj h
        exact g_return X hE dX7_note_136
    · have h := (if_neg hc).symm.trans h
      refine g_aload_n X (pc := 35) 0 rfl rfl dX7_note_35 ?_
      refine g_dup X (pc := 36) rfl dX7_note_36 ?_
      obtain ⟨v28, ev28, h⟩ := bd h
      refine g_getI X (pc := 37) fk_7_10 rfl rfl ev28 tb_266 dX7_note_37 ?_
      refine g_iconst X (pc := 40) (v := 1) dX7_note_40 (by decide) ?_
      refine g_iadd X (pc := 41) dX7_note_41 ?_
      obtain ⟨M29, eM29, h⟩ := bd h
      refine g_putI X (pc := 42) fk_7_10 rfl rfl rfl eM29 tb_266 (Or.inl rfl) dX7_note_42 ?_
      refine g_goto X (pc := 45) (tgt := 136) dX7_note_45 (by decide) ?_
      obtain rfl := Option.some.inj h
      exact g_return X hE dX7_note_136
  · have h := (if_neg hc).symm.trans h
    refine g_aload_n X (pc := 11) 0 rfl rfl dX7_note_11 ?_
    refine g_dup X (pc := 12) rfl dX7_note_12 ?_
    obtain ⟨v30, ev30, h⟩ := bd h
    refine g_getI X (pc := 13) fk_7_9 rfl rfl ev30 tb_265 dX7_note_13 ?_
    refine g_iconst X (pc := 16) (v := 1) dX7_note_16 (by decide) ?_
    refine g_iadd X (pc := 17) dX7_note_17 ?_
    obtain ⟨M31, eM31, h⟩ := bd h
    refine g_putI X (pc := 18) fk_7_9 rfl rfl rfl eM31 tb_265 (Or.inl rfl) dX7_note_18 ?_
    refine g_goto X (pc := 21) (tgt := 136) dX7_note_21 (by decide) ?_
    obtain rfl := Option.some.inj h
    exact g_return X hE dX7_note_136
theorem hyX7_note : yX7_note.cls ≠ "java/lang/invoke/MethodHandle" ∧ yX7_note.cls ≠ "java/lang/invoke/VarHandle" ∧ (parseMethodDescriptor yX7_note.desc).map (fun d => d.parameters.length) = some 4 := ⟨by decide +kernel, by decide +kernel, by decide +kernel⟩
theorem ctX7_note (l : Launch) (E : Nat → Nat) (D : va_G) (dA : Nat → ClassId) (lo : Nat) (H0 : Heap) (fu : Nat) (a0 : Nat) (a1 : Int32) (a2 : Int32) (a3 : Int32) (a4 : Int32) (M : Mm) (out : Mm) (h : fX7_note fu a0 a1 a2 a3 a4 M = some out) : Ct l E D dA lo H0 yX7_note cX7_note 5 none 7 155 [pR (some a0), pI a1, pI a2, pI a3, pI a4] M none out := by
  refine ct_of (by decide +kernel) (Nat.le_of_ble_eq_true rfl) ?_
  intro x hl he hd ha ho hh hn hin X hE
  exact wX7_note X hE hn fu a0 a1 a2 a3 a4 M h
