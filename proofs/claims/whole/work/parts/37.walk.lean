/-! ===== walks of methods, printed by a program of ours ===== -/
/-! WebHostModel.at(II)I -/
def fX16_at (fu : Nat)  (a0 : Nat) (a1 : Int32) (a2 : Int32)  (M : Mm) : Option (Int32 × Mm) :=
    (rc M 16 (some a0)).bind fun q1 =>
    b2 (fX16_slot fu q1 a1 M) fun v3 M2 =>
    if v3 < 0 then (
    some ((-1 : Int32), M2))
    else (
    if a2 < 0 then (
    some ((-1 : Int32), M2))
    else (
    (gR M2 16 1045 (some a0)).bind fun v4 =>
    (gA M2 101 v4 v3).bind fun v5 =>
    if a2 < v5 then (
    (gR M2 16 1044 (some a0)).bind fun v6 =>
    (gA M2 100 v6 ((v3 * (1514 : Int32)) + a2)).bind fun v7 =>
    some ((v7 &&& (255 : Int32)), M2))
    else (
    some ((-1 : Int32), M2))))
theorem dX16_at_0 : decode cX16_at 0 = .ok (.aload_n 0, 1) := by decide +kernel
theorem dX16_at_1 : decode cX16_at 1 = .ok (.iload_n 1, 1) := by decide +kernel
theorem dX16_at_2 : decode cX16_at 2 = .ok (.invokevirtual 865, 3) := by decide +kernel
theorem dX16_at_5 : decode cX16_at 5 = .ok (.istore_n 3, 1) := by decide +kernel
theorem dX16_at_6 : decode cX16_at 6 = .ok (.iload_n 3, 1) := by decide +kernel
theorem dX16_at_7 : decode cX16_at 7 = .ok (.ifCond .lt 17, 3) := by decide +kernel
theorem dX16_at_10 : decode cX16_at 10 = .ok (.iload_n 2, 1) := by decide +kernel
theorem dX16_at_11 : decode cX16_at 11 = .ok (.ifCond .lt 13, 3) := by decide +kernel
theorem dX16_at_14 : decode cX16_at 14 = .ok (.iload_n 2, 1) := by decide +kernel
theorem dX16_at_15 : decode cX16_at 15 = .ok (.aload_n 0, 1) := by decide +kernel
theorem dX16_at_16 : decode cX16_at 16 = .ok (.getfield 41, 3) := by decide +kernel
theorem dX16_at_19 : decode cX16_at 19 = .ok (.iload_n 3, 1) := by decide +kernel
theorem dX16_at_20 : decode cX16_at 20 = .ok (.iaload, 1) := by decide +kernel
theorem dX16_at_21 : decode cX16_at 21 = .ok (.if_icmp .lt 7, 3) := by decide +kernel
theorem dX16_at_24 : decode cX16_at 24 = .ok (.iconst (-1), 1) := by decide +kernel
theorem dX16_at_25 : decode cX16_at 25 = .ok (.goto 19, 3) := by decide +kernel
theorem dX16_at_28 : decode cX16_at 28 = .ok (.aload_n 0, 1) := by decide +kernel
theorem dX16_at_29 : decode cX16_at 29 = .ok (.getfield 38, 3) := by decide +kernel
theorem dX16_at_32 : decode cX16_at 32 = .ok (.iload_n 3, 1) := by decide +kernel
theorem dX16_at_33 : decode cX16_at 33 = .ok (.sipush 1514, 3) := by decide +kernel
theorem dX16_at_36 : decode cX16_at 36 = .ok (.imul, 1) := by decide +kernel
theorem dX16_at_37 : decode cX16_at 37 = .ok (.iload_n 2, 1) := by decide +kernel
theorem dX16_at_38 : decode cX16_at 38 = .ok (.iadd, 1) := by decide +kernel
theorem dX16_at_39 : decode cX16_at 39 = .ok (.baload, 1) := by decide +kernel
theorem dX16_at_40 : decode cX16_at 40 = .ok (.sipush 255, 3) := by decide +kernel
theorem dX16_at_43 : decode cX16_at 43 = .ok (.iand, 1) := by decide +kernel
theorem dX16_at_44 : decode cX16_at 44 = .ok (.ireturn, 1) := by decide +kernel
theorem wX16_at {x : GX} {n0 sl0 : Nat} (X : Cx x cX16_at RX16 (some .int) n0 sl0 1 21) {out : Int32 × Mm} (hE : Ends x n0 sl0 (some (pI out.1)) out.2) (hn : xn x = 4) (fu : Nat)   (a0 : Nat) (a1 : Int32) (a2 : Int32)  (M : Mm) (h : fX16_at fu  a0 a1 a2 M = some out) : Gw x M 0 [(0, pR (some a0)), (1, pI a1), (2, pI a2)] [] := by
  unfold fX16_at at h
  refine g_aload_n X (pc := 0) 0 rfl rfl dX16_at_0 ?_
  refine g_iload_n X (pc := 1) 1 rfl rfl dX16_at_1 ?_
  obtain ⟨q1, eq1, h⟩ := bd h
  obtain ⟨v3, M2, eM2, h⟩ := b2d h
  refine g_callV X (pc := 2) (M' := M2) (ro := some (pI v3)) (c := 16) rfl (by decide) (as := [pI a1]) (as' := [pI a1]) (st := []) eq1 (ctX16_slot _ _ _ _ _ _ fu q1 a1 M _ eM2) tb_2507 tb_2504 tb_2506 ts_143 tb_8 ⟨rfl, hyX16_slot⟩ rfl rfl ⟨by decide, by decide⟩ (Nat.le_of_ble_eq_true rfl) dX16_at_2 ?_
  refine g_istore_n X (pc := 5) [(3, pI v3), (0, pR (some a0)), (1, pI a1), (2, pI a2)] rfl (lt_n hn (by decide)) rfl dX16_at_5 ?_
  refine g_iload_n X (pc := 6) 0 rfl rfl dX16_at_6 ?_
  refine g_if_lt X (pc := 7) (tgt := 24) dX16_at_7 (by decide) (fun hc => ?_) (fun hc => ?_)
  · have h := (if_pos hc).symm.trans h
    refine g_iconst X (pc := 24) (v := (-1)) dX16_at_24 (by decide) ?_
    refine g_goto X (pc := 25) (tgt := 44) dX16_at_25 (by decide) ?_
    obtain rfl := Option.some.inj h
    exact g_ireturn X hE dX16_at_44
  · have h := (if_neg hc).symm.trans h
    refine g_iload_n X (pc := 10) 3 rfl rfl dX16_at_10 ?_
    refine g_if_lt X (pc := 11) (tgt := 24) dX16_at_11 (by decide) (fun hc => ?_) (fun hc => ?_)
    · have h := (if_pos hc).symm.trans h
      refine g_iconst X (pc := 24) (v := (-1)) dX16_at_24 (by decide) ?_
      refine g_goto X (pc := 25) (tgt := 44) dX16_at_25 (by decide) ?_
      obtain rfl := Option.some.inj h
      exact g_ireturn X hE dX16_at_44
    · have h := (if_neg hc).symm.trans h
      refine g_iload_n X (pc := 14) 3 rfl rfl dX16_at_14 ?_
      refine g_aload_n X (pc := 15) 1 rfl rfl dX16_at_15 ?_
      obtain ⟨v4, ev4, h⟩ := bd h
      refine g_getR X (pc := 16) fk_16_21 rfl rfl ev4 tb_1835 dX16_at_16 ?_
      refine g_iload_n X (pc := 19) 0 rfl rfl dX16_at_19 ?_
      obtain ⟨v5, ev5, h⟩ := bd h
      refine g_iaload X (pc := 20) ev5 dX16_at_20 ?_
      refine g_icmp_lt X (pc := 21) (tgt := 28) dX16_at_21 (by decide) (fun hc => ?_) (fun hc => ?_)
      · have h := (if_pos hc).symm.trans h
        refine g_aload_n X (pc := 28) 1 rfl rfl dX16_at_28 ?_
        obtain ⟨v6, ev6, h⟩ := bd h
        refine g_getR X (pc := 29) fk_16_20 rfl rfl ev6 tb_1834 dX16_at_29 ?_
        refine g_iload_n X (pc := 32) 0 rfl rfl dX16_at_32 ?_
        refine g_sipush X (pc := 33) (v := 1514) dX16_at_33 (by decide) ?_
        refine g_imul X (pc := 36) dX16_at_36 ?_
        refine g_iload_n X (pc := 37) 3 rfl rfl dX16_at_37 ?_
        refine g_iadd X (pc := 38) dX16_at_38 ?_
        obtain ⟨v7, ev7, h⟩ := bd h
        refine g_baload X (pc := 39) ev7 dX16_at_39 ?_
        refine g_sipush X (pc := 40) (v := 255) dX16_at_40 (by decide) ?_
        refine g_iand X (pc := 43) dX16_at_43 ?_
        obtain rfl := Option.some.inj h
        exact g_ireturn X hE dX16_at_44
      · have h := (if_neg hc).symm.trans h
        refine g_iconst X (pc := 24) (v := (-1)) dX16_at_24 (by decide) ?_
        refine g_goto X (pc := 25) (tgt := 44) dX16_at_25 (by decide) ?_
        obtain rfl := Option.some.inj h
        exact g_ireturn X hE dX16_at_44
theorem hyX16_at : yX16_at.cls ≠ "java/lang/invoke/MethodHandle" ∧ yX16_at.cls ≠ "java/lang/invoke/VarHandle" ∧ (parseMethodDescriptor yX16_at.desc).map (fun d => d.parameters.length) = some 2 := ⟨by decide +kernel, by decide +kernel, by decide +kernel⟩
theorem ctX16_at (l : Launch) (E : Nat → Nat) (D : va_G) (dA : Nat → ClassId) (lo : Nat) (H0 : Heap) (fu : Nat) (a0 : Nat) (a1 : Int32) (a2 : Int32) (M : Mm) (out : Int32 × Mm) (h : fX16_at fu a0 a1 a2 M = some out) : Ct l E D dA lo H0 yX16_at cX16_at 4 (some .int) 1 21 [pR (some a0), pI a1, pI a2] M (some (pI out.1)) out.2 := by
  refine ct_of (by decide +kernel) (Nat.le_of_ble_eq_true rfl) ?_
  intro x hl he hd ha ho hh hn hin X hE
  exact wX16_at X hE hn fu a0 a1 a2 M h
/-! WebHostModel.time(I)I -/
def fX16_time (fu : Nat)  (a0 : Nat) (a1 : Int32)  (M : Mm) : Option (Int32 × Mm) :=
    (rc M 16 (some a0)).bind fun q1 =>
    b2 (fX16_slot fu q1 a1 M) fun v3 M2 =>
    if 0 ≤ v3 then (
    (gR M2 16 1046 (some a0)).bind fun v4 =>
    (rc M2 16 (some a0)).bind fun q5 =>
    b2 (fX16_slot fu q5 a1 M2) fun v7 M6 =>
    (gA M6 101 v4 v7).bind fun v8 =>
    some (v8, M6))
    else (
    some ((-1 : Int32), M2))
theorem dX16_time_0 : decode cX16_time 0 = .ok (.aload_n 0, 1) := by decide +kernel
theorem dX16_time_1 : decode cX16_time 1 = .ok (.iload_n 1, 1) := by decide +kernel
theorem dX16_time_2 : decode cX16_time 2 = .ok (.invokevirtual 865, 3) := by decide +kernel
theorem dX16_time_5 : decode cX16_time 5 = .ok (.ifCond .ge 7, 3) := by decide +kernel
theorem dX16_time_8 : decode cX16_time 8 = .ok (.iconst (-1), 1) := by decide +kernel
theorem dX16_time_9 : decode cX16_time 9 = .ok (.goto 13, 3) := by decide +kernel
theorem dX16_time_12 : decode cX16_time 12 = .ok (.aload_n 0, 1) := by decide +kernel
theorem dX16_time_13 : decode cX16_time 13 = .ok (.getfield 44, 3) := by decide +kernel
theorem dX16_time_16 : decode cX16_time 16 = .ok (.aload_n 0, 1) := by decide +kernel
theorem dX16_time_17 : decode cX16_time 17 = .ok (.iload_n 1, 1) := by decide +kernel
theorem dX16_time_18 : decode cX16_time 18 = .ok (.invokevirtual 865, 3) := by decide +kernel
theorem dX16_time_21 : decode cX16_time 21 = .ok (.iaload, 1) := by decide +kernel
theorem dX16_time_22 : decode cX16_time 22 = .ok (.ireturn, 1) := by decide +kernel
theorem wX16_time {x : GX} {n0 sl0 : Nat} (X : Cx x cX16_time RX16 (some .int) n0 sl0 1 21) {out : Int32 × Mm} (hE : Ends x n0 sl0 (some (pI out.1)) out.2) (hn : xn x = 2) (fu : Nat)   (a0 : Nat) (a1 : Int32)  (M : Mm) (h : fX16_time fu  a0 a1 M = some out) : Gw x M 0 [(0, pR (some a0)), (1, pI a1)] [] := by
  unfold fX16_time at h
  refine g_aload_n X (pc := 0) 0 rfl rfl dX16_time_0 ?_
  refine g_iload_n X (pc := 1) 1 rfl rfl dX16_time_1 ?_
  obtain ⟨q1, eq1, h⟩ := bd h
  obtain ⟨v3, M2, eM2, h⟩ := b2d h
  refine g_callV X (pc := 2) (M' := M2) (ro := some (pI v3)) (c := 16) rfl (by decide) (as := [pI a1]) (as' := [pI a1]) (st := []) eq1 (ctX16_slot _ _ _ _ _ _ fu q1 a1 M _ eM2) tb_2507 tb_2504 tb_2506 ts_143 tb_8 ⟨rfl, hyX16_slot⟩ rfl rfl ⟨by decide, by decide⟩ (Nat.le_of_ble_eq_true rfl) dX16_time_2 ?_
  refine g_if_ge X (pc := 5) (tgt := 12) dX16_time_5 (by decide) (fun hc => ?_) (fun hc => ?_)
  · have h := (if_pos hc).symm.trans h
    refine g_aload_n X (pc := 12) 0 rfl rfl dX16_time_12 ?_
    obtain ⟨v4, ev4, h⟩ := bd h
    refine g_getR X (pc := 13) fk_16_22 rfl rfl ev4 tb_1836 dX16_time_13 ?_
    refine g_aload_n X (pc := 16) 0 rfl rfl dX16_time_16 ?_
    refine g_iload_n X (pc := 17) 1 rfl rfl dX16_time_17 ?_
    obtain ⟨q5, eq5, h⟩ := bd h
    obtain ⟨v7, M6, eM6, h⟩ := b2d h
    refine g_callV X (pc := 18) (M' := M6) (ro := some (pI v7)) (c := 16) rfl (by decide) (as := [pI a1]) (as' := [pI a1]) (st := [pR v4]) eq5 (ctX16_slot _ _ _ _ _ _ fu q5 a1 M2 _ eM6) tb_2507 tb_2504 tb_2506 ts_143 tb_8 ⟨rfl, hyX16_slot⟩ rfl rfl ⟨by decide, by decide⟩ (Nat.le_of_ble_eq_true rfl) dX16_time_18 ?_
    obtain ⟨v8, ev8, h⟩ := bd h
    refine g_iaload X (pc := 21) ev8 dX16_time_21 ?_
    obtain rfl := Option.some.inj h
    exact g_ireturn X hE dX16_time_22
  · have h := (if_neg hc).symm.trans h
    refine g_iconst X (pc := 8) (v := (-1)) dX16_time_8 (by decide) ?_
    refine g_goto X (pc := 9) (tgt := 22) dX16_time_9 (by decide) ?_
    obtain rfl := Option.some.inj h
    exact g_ireturn X hE dX16_time_22
theorem hyX16_time : yX16_time.cls ≠ "java/lang/invoke/MethodHandle" ∧ yX16_time.cls ≠ "java/lang/invoke/VarHandle" ∧ (parseMethodDescriptor yX16_time.desc).map (fun d => d.parameters.length) = some 1 := ⟨by decide +kernel, by decide +kernel, by decide +kernel⟩
theorem ctX16_time (l : Launch) (E : Nat → Nat) (D : va_G) (dA : Nat → ClassId) (lo : Nat) (H0 : Heap) (fu : Nat) (a0 : Nat) (a1 : Int32) (M : Mm) (out : Int32 × Mm) (h : fX16_time fu a0 a1 M = some out) : Ct l E D dA lo H0 yX16_time cX16_time 2 (some .int) 1 21 [pR (some a0), pI a1] M (some (pI out.1)) out.2 := by
  refine ct_of (by decide +kernel) (Nat.le_of_ble_eq_true rfl) ?_
  intro x hl he hd ha ho hh hn hin X hE
  exact wX16_time X hE hn fu a0 a1 M h
/-! WebHostModel.state(I)I -/
def fX16_state (fu : Nat)  (a0 : Nat) (a1 : Int32)  (M : Mm) : Option (Int32 × Mm) :=
    if a1 < 0 then (
    some ((-1 : Int32), M))
    else (
    if a1 < (16 : Int32) then (
    (gI M 16 1028 (some a0)).bind fun v1 =>
    if v1 = 0 then (
    some ((0 : Int32), M))
    else (
    (gR M 16 1055 (some a0)).bind fun v2 =>
    (gB M 122 v2 a1).bind fun v3 =>
    (gI M 12 768 v3).bind fun v4 =>
    some (v4, M)))
    else (
    some ((-1 : Int32), M)))
theorem dX16_state_0 : decode cX16_state 0 = .ok (.iload_n 1, 1) := by decide +kernel
theorem dX16_state_1 : decode cX16_state 1 = .ok (.ifCond .lt 9, 3) := by decide +kernel
theorem dX16_state_4 : decode cX16_state 4 = .ok (.iload_n 1, 1) := by decide +kernel
theorem dX16_state_5 : decode cX16_state 5 = .ok (.bipush 16, 2) := by decide +kernel
theorem dX16_state_7 : decode cX16_state 7 = .ok (.if_icmp .lt 7, 3) := by decide +kernel
theorem dX16_state_10 : decode cX16_state 10 = .ok (.iconst (-1), 1) := by decide +kernel
theorem dX16_state_11 : decode cX16_state 11 = .ok (.goto 23, 3) := by decide +kernel
theorem dX16_state_14 : decode cX16_state 14 = .ok (.aload_n 0, 1) := by decide +kernel
theorem dX16_state_15 : decode cX16_state 15 = .ok (.getfield 95, 3) := by decide +kernel
theorem dX16_state_18 : decode cX16_state 18 = .ok (.ifCond .eq 15, 3) := by decide +kernel
theorem dX16_state_21 : decode cX16_state 21 = .ok (.aload_n 0, 1) := by decide +kernel
theorem dX16_state_22 : decode cX16_state 22 = .ok (.getfield 70, 3) := by decide +kernel
theorem dX16_state_25 : decode cX16_state 25 = .ok (.iload_n 1, 1) := by decide +kernel
theorem dX16_state_26 : decode cX16_state 26 = .ok (.aaload, 1) := by decide +kernel
theorem dX16_state_27 : decode cX16_state 27 = .ok (.getfield 152, 3) := by decide +kernel
theorem dX16_state_30 : decode cX16_state 30 = .ok (.goto 4, 3) := by decide +kernel
theorem dX16_state_33 : decode cX16_state 33 = .ok (.iconst 0, 1) := by decide +kernel
theorem dX16_state_34 : decode cX16_state 34 = .ok (.ireturn, 1) := by decide +kernel
theorem wX16_state {x : GX} {n0 sl0 : Nat} (X : Cx x cX16_state RX16 (some .int) n0 sl0 0 0) {out : Int32 × Mm} (hE : Ends x n0 sl0 (some (pI out.1)) out.2) (hn : xn x = 2) (fu : Nat)   (a0 : Nat) (a1 : Int32)  (M : Mm) (h : fX16_state fu  a0 a1 M = some out) : Gw x M 0 [(0, pR (some a0)), (1, pI a1)] [] := by
  unfold fX16_state at h
  refine g_iload_n X (pc := 0) 1 rfl rfl dX16_state_0 ?_
  refine g_if_lt X (pc := 1) (tgt := 10) dX16_state_1 (by decide) (fun hc => ?_) (fun hc => ?_)
  · have h := (if_pos hc).symm.trans h
    refine g_iconst X (pc := 10) (v := (-1)) dX16_state_10 (by decide) ?_
    refine g_goto X (pc := 11) (tgt := 34) dX16_state_11 (by decide) ?_
    obtain rfl := Option.some.inj h
    exact g_ireturn X hE dX16_state_34
  · have h := (if_neg hc).symm.trans h
    refine g_iload_n X (pc := 4) 1 rfl rfl dX16_state_4 ?_
    refine g_bipush X (pc := 5) (v := 16) dX16_state_5 (by decide) ?_
    refine g_icmp_lt X (pc := 7) (tgt := 14) dX16_state_7 (by decide) (fun hc => ?_) (fun hc => ?_)
    · have h := (if_pos hc).symm.trans h
      refine g_aload_n X (pc := 14) 0 rfl rfl dX16_state_14 ?_
      obtain ⟨v1, ev1, h⟩ := bd h
      refine g_getI X (pc := 15) fk_16_4 rfl rfl ev1 tb_1818 dX16_state_15 ?_
      refine g_if_eq X (pc := 18) (tgt := 33) dX16_state_18 (by decide) (fun hc => ?_) (fun hc => ?_)
      · have h := (if_pos hc).symm.trans h
        refine g_iconst X (pc := 33) (v := 0) dX16_state_33 (by decide) ?_
        obtain rfl := Option.some.inj h
        exact g_ireturn X hE dX16_state_34
      · have h := (if_neg hc).symm.trans h
        refine g_aload_n X (pc := 21) 0 rfl rfl dX16_state_21 ?_
        obtain ⟨v2, ev2, h⟩ := bd h
        refine g_getR X (pc := 22) fk_16_31 rfl rfl ev2 tb_1845 dX16_state_22 ?_
        refine g_iload_n X (pc := 25) 1 rfl rfl dX16_state_25 ?_
        obtain ⟨v3, ev3, h⟩ := bd h
        refine g_aaload X (pc := 26) (k := 9) rfl rfl (by decide) ev3 dX16_state_26 ?_
        obtain ⟨v4, ev4, h⟩ := bd h
        refine g_getI X (pc := 27) fk_12_0 rfl rfl ev4 tb_1580 dX16_state_27 ?_
        refine g_goto X (pc := 30) (tgt := 34) dX16_state_30 (by decide) ?_
        obtain rfl := Option.some.inj h
        exact g_ireturn X hE dX16_state_34
    · have h := (if_neg hc).symm.trans h
      refine g_iconst X (pc := 10) (v := (-1)) dX16_state_10 (by decide) ?_
      refine g_goto X (pc := 11) (tgt := 34) dX16_state_11 (by decide) ?_
      obtain rfl := Option.some.inj h
      exact g_ireturn X hE dX16_state_34
theorem hyX16_state : yX16_state.cls ≠ "java/lang/invoke/MethodHandle" ∧ yX16_state.cls ≠ "java/lang/invoke/VarHandle" ∧ (parseMethodDescriptor yX16_state.desc).map (fun d => d.parameters.length) = some 1 := ⟨by decide +kernel, by decide +kernel, by decide +kernel⟩
theorem ctX16_state (l : Launch) (E : Nat → Nat) (D : va_G) (dA : Nat → ClassId) (lo : Nat) (H0 : Heap) (fu : Nat) (a0 : Nat) (a1 : Int32) (M : Mm) (out : Int32 × Mm) (h : fX16_state fu a0 a1 M = some out) : Ct l E D dA lo H0 yX16_state cX16_state 2 (some .int) 0 0 [pR (some a0), pI a1] M (some (pI out.1)) out.2 := by
  refine ct_of (by decide +kernel) (Nat.le_of_ble_eq_true rfl) ?_
  intro x hl he hd ha ho hh hn hin X hE
  exact wX16_state X hE hn fu a0 a1 M h
/-! WebHostModel.cached(I)Z -/
def fX16_cached (fu : Nat)  (a0 : Nat) (a1 : Int32)  (M : Mm) : Option (Int32 × Mm) :=
    (gI M 16 1028 (some a0)).bind fun v1 =>
    if v1 = 0 then (
    rN .boolean (0 : Int32) M)
    else (
    (rc M 16 (some a0)).bind fun q2 =>
    b2 (fX16_counting fu q2 a1 M) fun v4 M3 =>
    if v4 = none then (
    rN .boolean (0 : Int32) M3)
    else (
    rN .boolean (1 : Int32) M3))
theorem dX16_cached_0 : decode cX16_cached 0 = .ok (.aload_n 0, 1) := by decide +kernel
theorem dX16_cached_1 : decode cX16_cached 1 = .ok (.getfield 95, 3) := by decide +kernel
theorem dX16_cached_4 : decode cX16_cached 4 = .ok (.ifCond .eq 15, 3) := by decide +kernel
theorem dX16_cached_7 : decode cX16_cached 7 = .ok (.aload_n 0, 1) := by decide +kernel
theorem dX16_cached_8 : decode cX16_cached 8 = .ok (.iload_n 1, 1) := by decide +kernel
theorem dX16_cached_9 : decode cX16_cached 9 = .ok (.invokevirtual 227, 3) := by decide +kernel
theorem dX16_cached_12 : decode cX16_cached 12 = .ok (.ifnull 7, 3) := by decide +kernel
theorem dX16_cached_15 : decode cX16_cached 15 = .ok (.iconst 1, 1) := by decide +kernel
theorem dX16_cached_16 : decode cX16_cached 16 = .ok (.goto 4, 3) := by decide +kernel
theorem dX16_cached_19 : decode cX16_cached 19 = .ok (.iconst 0, 1) := by decide +kernel
theorem dX16_cached_20 : decode cX16_cached 20 = .ok (.ireturn, 1) := by decide +kernel
theorem wX16_cached {x : GX} {n0 sl0 : Nat} (X : Cx x cX16_cached RX16 (some .boolean) n0 sl0 2 44) {out : Int32 × Mm} (hE : Ends x n0 sl0 (some (pI out.1)) out.2) (hn : xn x = 2) (fu : Nat)   (a0 : Nat) (a1 : Int32)  (M : Mm) (h : fX16_cached fu  a0 a1 M = some out) : Gw x M 0 [(0, pR (some a0)), (1, pI a1)] [] := by
  unfold fX16_cached at h
  refine g_aload_n X (pc := 0) 0 rfl rfl dX16_cached_0 ?_
  obtain ⟨v1, ev1, h⟩ := bd h
  refine g_getI X (pc := 1) fk_16_4 rfl rfl ev1 tb_1818 dX16_cached_1 ?_
  refine g_if_eq X (pc := 4) (tgt := 19) dX16_cached_4 (by decide) (fun hc => ?_) (fun hc => ?_)
  · have h := (if_pos hc).symm.trans h
    refine g_iconst X (pc := 19) (v := 0) dX16_cached_19 (by decide) ?_
    obtain ⟨hz, rfl⟩ := rN_some h
    exact g_nreturn X rfl hz hE dX16_cached_20
  · have h := (if_neg hc).symm.trans h
    refine g_aload_n X (pc := 7) 0 rfl rfl dX16_cached_7 ?_
    refine g_iload_n X (pc := 8) 1 rfl rfl dX16_cached_8 ?_
    obtain ⟨q2, eq2, h⟩ := bd h
    obtain ⟨v4, M3, eM3, h⟩ := b2d h
    refine g_callV X (pc := 9) (M' := M3) (ro := some (pR v4)) (c := 16) rfl (by decide) (as := [pI a1]) (as' := [pI a1]) (st := []) eq2 (ctX16_counting _ _ _ _ _ _ fu q2 a1 M _ eM3) tb_2141 tb_2138 tb_2140 ts_79 tb_8 ⟨rfl, hyX16_counting⟩ rfl rfl ⟨by decide, by decide⟩ (Nat.le_of_ble_eq_true rfl) dX16_cached_9 ?_
    refine g_ifnull X (pc := 12) (tgt := 19) dX16_cached_12 (by decide) (fun hc => ?_) (fun hc => ?_)
    · have h := (if_pos hc).symm.trans h
      refine g_iconst X (pc := 19) (v := 0) dX16_cached_19 (by decide) ?_
      obtain ⟨hz, rfl⟩ := rN_some h
      exact g_nreturn X rfl hz hE dX16_cached_20
    · have h := (if_neg hc).symm.trans h
      refine g_iconst X (pc := 15) (v := 1) dX16_cached_15 (by decide) ?_
      refine g_goto X (pc := 16) (tgt := 20) dX16_cached_16 (by decide) ?_
      obtain ⟨hz, rfl⟩ := rN_some h
      exact g_nreturn X rfl hz hE dX16_cached_20
theorem hyX16_cached : yX16_cached.cls ≠ "java/lang/invoke/MethodHandle" ∧ yX16_cached.cls ≠ "java/lang/invoke/VarHandle" ∧ (parseMethodDescriptor yX16_cached.desc).map (fun d => d.parameters.length) = some 1 := ⟨by decide +kernel, by decide +kernel, by decide +kernel⟩
theorem ctX16_cached (l : Launch) (E : Nat → Nat) (D : va_G) (dA : Nat → ClassId) (lo : Nat) (H0 : Heap) (fu : Nat) (a0 : Nat) (a1 : Int32) (M : Mm) (out : Int32 × Mm) (h : fX16_cached fu a0 a1 M = some out) : Ct l E D dA lo H0 yX16_cached cX16_cached 2 (some .boolean) 2 44 [pR (some a0), pI a1] M (some (pI out.1)) out.2 := by
  refine ct_of (by decide +kernel) (Nat.le_of_ble_eq_true rfl) ?_
  intro x hl he hd ha ho hh hn hin X hE
  exact wX16_cached X hE hn fu a0 a1 M h
/-! WebHostModel.waiting()I -/
def fX16_waiting_L32 (fu : Nat) (k4 : Nat → Int32 → Int32 → Mm → Option (Int32 × Mm)) (a0 : Nat) (a1 : Int32) (a2 : Int32)  (M : Mm) : Option (Int32 × Mm) :=
    k4 a0 a1 (a2 + (1 : Int32)) M
def fX16_waiting_L4 (fu : Nat)  : Nat → Nat → Int32 → Int32 → Mm → Option (Int32 × Mm)
  | 0, _, _, _, _ => none
  | n + 1, a0, a1, a2, M =>
    if (8 : Int32) ≤ a2 then (
    some (a1, M))
    else (
    (gI M 16 1028 (some a0)).bind fun v1 =>
    if v1 = 0 then (
    some (a1, M))
    else (
    (gR M 16 1051 (some a0)).bind fun v2 =>
    (gB M 125 v2 a2).bind fun v3 =>
    (gI M 15 960 v3).bind fun v4 =>
    if v4 = 0 then (
    fX16_waiting_L32 fu (fun b0 b1 b2 M => fX16_waiting_L4 fu  n b0 b1 b2 M) a0 a1 a2 M)
    else (
    fX16_waiting_L32 fu (fun b0 b1 b2 M => fX16_waiting_L4 fu  n b0 b1 b2 M) a0 (a1 + (1 : Int32)) a2 M)))
def fX16_waiting (fu : Nat)  (a0 : Nat)  (M : Mm) : Option (Int32 × Mm) :=
    fX16_waiting_L4 fu  fu a0 (0 : Int32) (0 : Int32) M
theorem dX16_waiting_0 : decode cX16_waiting 0 = .ok (.iconst 0, 1) := by decide +kernel
theorem dX16_waiting_1 : decode cX16_waiting 1 = .ok (.istore_n 1, 1) := by decide +kernel
theorem dX16_waiting_2 : decode cX16_waiting 2 = .ok (.iconst 0, 1) := by decide +kernel
theorem dX16_waiting_3 : decode cX16_waiting 3 = .ok (.istore_n 2, 1) := by decide +kernel
theorem dX16_waiting_4 : decode cX16_waiting 4 = .ok (.iload_n 2, 1) := by decide +kernel
theorem dX16_waiting_5 : decode cX16_waiting 5 = .ok (.bipush 8, 2) := by decide +kernel
theorem dX16_waiting_7 : decode cX16_waiting 7 = .ok (.if_icmp .ge 31, 3) := by decide +kernel
theorem dX16_waiting_10 : decode cX16_waiting 10 = .ok (.aload_n 0, 1) := by decide +kernel
theorem dX16_waiting_11 : decode cX16_waiting 11 = .ok (.getfield 95, 3) := by decide +kernel
theorem dX16_waiting_14 : decode cX16_waiting 14 = .ok (.ifCond .eq 24, 3) := by decide +kernel
theorem dX16_waiting_17 : decode cX16_waiting 17 = .ok (.aload_n 0, 1) := by decide +kernel
theorem dX16_waiting_18 : decode cX16_waiting 18 = .ok (.getfield 55, 3) := by decide +kernel
theorem dX16_waiting_21 : decode cX16_waiting 21 = .ok (.iload_n 2, 1) := by decide +kernel
theorem dX16_waiting_22 : decode cX16_waiting 22 = .ok (.aaload, 1) := by decide +kernel
theorem dX16_waiting_23 : decode cX16_waiting 23 = .ok (.getfield 158, 3) := by decide +kernel
theorem dX16_waiting_26 : decode cX16_waiting 26 = .ok (.ifCond .eq 6, 3) := by decide +kernel
theorem dX16_waiting_29 : decode cX16_waiting 29 = .ok (.iinc 1 1, 3) := by decide +kernel
theorem dX16_waiting_32 : decode cX16_waiting 32 = .ok (.iinc 2 1, 3) := by decide +kernel
theorem dX16_waiting_35 : decode cX16_waiting 35 = .ok (.goto (-31), 3) := by decide +kernel
theorem dX16_waiting_38 : decode cX16_waiting 38 = .ok (.iload_n 1, 1) := by decide +kernel
theorem dX16_waiting_39 : decode cX16_waiting 39 = .ok (.ireturn, 1) := by decide +kernel
theorem wX16_waiting_L32 {x : GX} {n0 sl0 : Nat} (X : Cx x cX16_waiting RX16 (some .int) n0 sl0 0 0) {out : Int32 × Mm} (hE : Ends x n0 sl0 (some (pI out.1)) out.2) (hn : xn x = 3) (fu : Nat) (k4 : Nat → Int32 → Int32 → Mm → Option (Int32 × Mm)) (hk4 : ∀ (b0 : Nat) (b1 : Int32) (b2 : Int32)  (M : Mm), k4 b0 b1 b2 M = some out → Gw x M 4 [(0, pR (some b0)), (1, pI b1), (2, pI b2)] []) (a0 : Nat) (a1 : Int32) (a2 : Int32)  (M : Mm) (h : fX16_waiting_L32 fu k4 a0 a1 a2 M = some out) : Gw x M 32 [(0, pR (some a0)), (1, pI a1), (2, pI a2)] [] := by
  unfold fX16_waiting_L32 at h
  refine g_iinc X (pc := 32) 2 [(2, pI (a2 + (1 : Int32))), (0, pR (some a0)), (1, pI a1)] rfl (iinc_e (by decide)) (lt_n hn (by decide)) rfl dX16_waiting_32 ?_
  refine g_goto X (pc := 35) (tgt := 4) dX16_waiting_35 (by decide) ?_
  refine g_sub [1, 2, 0] [(0, pR (some a0)), (1, pI a1), (2, pI (a2 + (1 : Int32)))] rfl ?_
  exact hk4 a0 a1 (a2 + (1 : Int32)) M h
theorem wX16_waiting_L4 {x : GX} {n0 sl0 : Nat} (X : Cx x cX16_waiting RX16 (some .int) n0 sl0 0 0) {out : Int32 × Mm} (hE : Ends x n0 sl0 (some (pI out.1)) out.2) (hn : xn x = 3) (fu : Nat)   : ∀ (n : Nat) (a0 : Nat) (a1 : Int32) (a2 : Int32)  (M : Mm), fX16_waiting_L4 fu  n a0 a1 a2 M = some out → Gw x M 4 [(0, pR (some a0)), (1, pI a1), (2, pI a2)] [] := by
  intro n
  induction n with
  | zero =>
    intro a0 a1 a2 M h
    have h : (none : Option (Int32 × Mm)) = some out := h
    cases h
  | succ n ih =>
    intro a0 a1 a2 M h
    rw [fX16_waiting_L4] at h
    refine g_iload_n X (pc := 4) 2 rfl rfl dX16_waiting_4 ?_
    refine g_bipush X (pc := 5) (v := 8) dX16_waiting_5 (by decide) ?_
    refine g_icmp_ge X (pc := 7) (tgt := 38) dX16_waiting_7 (by decide) (fun hc => ?_) (fun hc => ?_)
    · have h := (if_pos hc).symm.trans h
      refine g_iload_n X (pc := 38) 1 rfl rfl dX16_waiting_38 ?_
      obtain rfl := Option.some.inj h
      exact g_ireturn X hE dX16_waiting_39
    · have h := (if_neg hc).symm.trans h
      refine g_aload_n X (pc := 10) 0 rfl rfl dX16_waiting_10 ?_
      obtain ⟨v1, ev1, h⟩ := bd h
      refine g_getI X (pc := 11) fk_16_4 rfl rfl ev1 tb_1818 dX16_waiting_11 ?_
      refine g_if_eq X (pc := 14) (tgt := 38) dX16_waiting_14 (by decide) (fun hc => ?_) (fun hc => ?_)
      · have h := (if_pos hc).symm.trans h
        refine g_iload_n X (pc := 38) 1 rfl rfl dX16_waiting_38 ?_
        obtain rfl := Option.some.inj h
        exact g_ireturn X hE dX16_waiting_39
      · have h := (if_neg hc).symm.trans h
        refine g_aload_n X (pc := 17) 0 rfl rfl dX16_waiting_17 ?_
        obtain ⟨v2, ev2, h⟩ := bd h
        refine g_getR X (pc := 18) fk_16_27 rfl rfl ev2 tb_1841 dX16_waiting_18 ?_
        refine g_iload_n X (pc := 21) 2 rfl rfl dX16_waiting_21 ?_
        obtain ⟨v3, ev3, h⟩ := bd h
        refine g_aaload X (pc := 22) (k := 7) rfl rfl (by decide) ev3 dX16_waiting_22 ?_
        obtain ⟨v4, ev4, h⟩ := bd h
        refine g_getI X (pc := 23) fk_15_0 rfl rfl ev4 tb_1756 dX16_waiting_23 ?_
        refine g_if_eq X (pc := 26) (tgt := 32) dX16_waiting_26 (by decide) (fun hc => ?_) (fun hc => ?_)
        · have h := (if_pos hc).symm.trans h
          exact wX16_waiting_L32 X hE hn fu (fun b0 b1 b2 M => fX16_waiting_L4 fu  n b0 b1 b2 M) ih a0 a1 a2 M h
        · have h := (if_neg hc).symm.trans h
          refine g_iinc X (pc := 29) 1 [(1, pI (a1 + (1 : Int32))), (0, pR (some a0)), (2, pI a2)] rfl (iinc_e (by decide)) (lt_n hn (by decide)) rfl dX16_waiting_29 ?_
          refine g_sub [1, 0, 2] [(0, pR (some a0)), (1, pI (a1 + (1 : Int32))), (2, pI a2)] rfl ?_
          exact wX16_waiting_L32 X hE hn fu (fun b0 b1 b2 M => fX16_waiting_L4 fu  n b0 b1 b2 M) ih a0 (a1 + (1 : Int32)) a2 M h
theorem wX16_waiting {x : GX} {n0 sl0 : Nat} (X : Cx x cX16_waiting RX16 (some .int) n0 sl0 0 0) {out : Int32 × Mm} (hE : Ends x n0 sl0 (some (pI out.1)) out.2) (hn : xn x = 3) (fu : Nat)   (a0 : Nat)  (M : Mm) (h : fX16_waiting fu  a0 M = some out) : Gw x M 0 [(0, pR (some a0))] [] := by
  unfold fX16_waiting at h
  refine g_iconst X (pc := 0) (v := 0) dX16_waiting_0 (by decide) ?_
  refine g_istore_n X (pc := 1) [(1, pI (0 : Int32)), (0, pR (some a0))] rfl (lt_n hn (by decide)) rfl dX16_waiting_1 ?_
  refine g_iconst X (pc := 2) (v := 0) dX16_waiting_2 (by decide) ?_
  refine g_istore_n X (pc := 3) [(2, pI (0 : Int32)), (1, pI (0 : Int32)), (0, pR (some a0))] rfl (lt_n hn (by decide)) rfl dX16_waiting_3 ?_
  refine g_sub [2, 1, 0] [(0, pR (some a0)), (1, pI (0 : Int32)), (2, pI (0 : Int32))] rfl ?_
  exact wX16_waiting_L4 X hE hn fu   fu a0 (0 : Int32) (0 : Int32) M h
theorem hyX16_waiting : yX16_waiting.cls ≠ "java/lang/invoke/MethodHandle" ∧ yX16_waiting.cls ≠ "java/lang/invoke/VarHandle" ∧ (parseMethodDescriptor yX16_waiting.desc).map (fun d => d.parameters.length) = some 0 := ⟨by decide +kernel, by decide +kernel, by decide +kernel⟩
theorem ctX16_waiting (l : Launch) (E : Nat → Nat) (D : va_G) (dA : Nat → ClassId) (lo : Nat) (H0 : Heap) (fu : Nat) (a0 : Nat) (M : Mm) (out : Int32 × Mm) (h : fX16_waiting fu a0 M = some out) : Ct l E D dA lo H0 yX16_waiting cX16_waiting 3 (some .int) 0 0 [pR (some a0)] M (some (pI out.1)) out.2 := by
  refine ct_of (by decide +kernel) (Nat.le_of_ble_eq_true rfl) ?_
  intro x hl he hd ha ho hh hn hin X hE
  exact wX16_waiting X hE hn fu a0 M h
/-! WebHostModel.counted(I)I -/
def fX16_counted (fu : Nat)  (a0 : Nat) (a1 : Int32)  (M : Mm) : Option (Int32 × Mm) :=
    (gI M 16 1028 (some a0)).bind fun v1 =>
    if v1 = 0 then (
    some ((-1 : Int32), M))
    else (
    if a1 < 0 then (
    some ((-1 : Int32), M))
    else (
    if (8 : Int32) ≤ a1 then (
    some ((-1 : Int32), M))
    else (
    (gR M 16 1041 (some a0)).bind fun v2 =>
    (gA M 101 v2 a1).bind fun v3 =>
    some (v3, M))))
theorem dX16_counted_0 : decode cX16_counted 0 = .ok (.aload_n 0, 1) := by decide +kernel
theorem dX16_counted_1 : decode cX16_counted 1 = .ok (.getfield 95, 3) := by decide +kernel
theorem dX16_counted_4 : decode cX16_counted 4 = .ok (.ifCond .eq 22, 3) := by decide +kernel
theorem dX16_counted_7 : decode cX16_counted 7 = .ok (.iload_n 1, 1) := by decide +kernel
theorem dX16_counted_8 : decode cX16_counted 8 = .ok (.ifCond .lt 18, 3) := by decide +kernel
theorem dX16_counted_11 : decode cX16_counted 11 = .ok (.iload_n 1, 1) := by decide +kernel
theorem dX16_counted_12 : decode cX16_counted 12 = .ok (.bipush 8, 2) := by decide +kernel
theorem dX16_counted_14 : decode cX16_counted 14 = .ok (.if_icmp .ge 12, 3) := by decide +kernel
theorem dX16_counted_17 : decode cX16_counted 17 = .ok (.aload_n 0, 1) := by decide +kernel
theorem dX16_counted_18 : decode cX16_counted 18 = .ok (.getfield 31, 3) := by decide +kernel
theorem dX16_counted_21 : decode cX16_counted 21 = .ok (.iload_n 1, 1) := by decide +kernel
theorem dX16_counted_22 : decode cX16_counted 22 = .ok (.iaload, 1) := by decide +kernel
theorem dX16_counted_23 : decode cX16_counted 23 = .ok (.goto 4, 3) := by decide +kernel
theorem dX16_counted_26 : decode cX16_counted 26 = .ok (.iconst (-1), 1) := by decide +kernel
theorem dX16_counted_27 : decode cX16_counted 27 = .ok (.ireturn, 1) := by decide +kernel
theorem wX16_counted {x : GX} {n0 sl0 : Nat} (X : Cx x cX16_counted RX16 (some .int) n0 sl0 0 0) {out : Int32 × Mm} (hE : Ends x n0 sl0 (some (pI out.1)) out.2) (hn : xn x = 2) (fu : Nat)   (a0 : Nat) (a1 : Int32)  (M : Mm) (h : fX16_counted fu  a0 a1 M = some out) : Gw x M 0 [(0, pR (some a0)), (1, pI a1)] [] := by
  unfold fX16_counted at h
  refine g_aload_n X (pc := 0) 0 rfl rfl dX16_counted_0 ?_
  obtain ⟨v1, ev1, h⟩ := bd h
  refine g_getI X (pc := 1) fk_16_4 rfl rfl ev1 tb_1818 dX16_counted_1 ?_
  refine g_if_eq X (pc := 4) (tgt := 26) dX16_counted_4 (by decide) (fun hc => ?_) (fun hc => ?_)
  · have h := (if_pos hc).symm.trans h
    refine g_iconst X (pc := 26) (v := (-1)) dX16_counted_26 (by decide) ?_
    obtain rfl := Option.some.inj h
    exact g_ireturn X hE dX16_counted_27
  · have h := (if_neg hc).symm.trans h
    refine g_iload_n X (pc := 7) 1 rfl rfl dX16_counted_7 ?_
    refine g_if_lt X (pc := 8) (tgt := 26) dX16_counted_8 (by decide) (fun hc => ?_) (fun hc => ?_)
    · have h := (if_pos hc).symm.trans h
      refine g_iconst X (pc := 26) (v := (-1)) dX16_counted_26 (by decide) ?_
      obtain rfl := Option.some.inj h
      exact g_ireturn X hE dX16_counted_27
    · have h := (if_neg hc).symm.trans h
      refine g_iload_n X (pc := 11) 1 rfl rfl dX16_counted_11 ?_
      refine g_bipush X (pc := 12) (v := 8) dX16_counted_12 (by decide) ?_
      refine g_icmp_ge X (pc := 14) (tgt := 26) dX16_counted_14 (by decide) (fun hc => ?_) (fun hc => ?_)
      · have h := (if_pos hc).symm.trans h
        refine g_iconst X (pc := 26) (v := (-1)) dX16_counted_26 (by decide) ?_
        obtain rfl := Option.some.inj h
        exact g_ireturn X hE dX16_counted_27
      · have h := (if_neg hc).symm.trans h
        refine g_aload_n X (pc := 17) 0 rfl rfl dX16_counted_17 ?_
        obtain ⟨v2, ev2, h⟩ := bd h
        refine g_getR X (pc := 18) fk_16_17 rfl rfl ev2 tb_1831 dX16_counted_18 ?_
        refine g_iload_n X (pc := 21) 1 rfl rfl dX16_counted_21 ?_
        obtain ⟨v3, ev3, h⟩ := bd h
        refine g_iaload X (pc := 22) ev3 dX16_counted_22 ?_
        refine g_goto X (pc := 23) (tgt := 27) dX16_counted_23 (by decide) ?_
        obtain rfl := Option.some.inj h
        exact g_ireturn X hE dX16_counted_27
theorem hyX16_counted : yX16_counted.cls ≠ "java/lang/invoke/MethodHandle" ∧ yX16_counted.cls ≠ "java/lang/invoke/VarHandle" ∧ (parseMethodDescriptor yX16_counted.desc).map (fun d => d.parameters.length) = some 1 := ⟨by decide +kernel, by decide +kernel, by decide +kernel⟩
theorem ctX16_counted (l : Launch) (E : Nat → Nat) (D : va_G) (dA : Nat → ClassId) (lo : Nat) (H0 : Heap) (fu : Nat) (a0 : Nat) (a1 : Int32) (M : Mm) (out : Int32 × Mm) (h : fX16_counted fu a0 a1 M = some out) : Ct l E D dA lo H0 yX16_counted cX16_counted 2 (some .int) 0 0 [pR (some a0), pI a1] M (some (pI out.1)) out.2 := by
  refine ct_of (by decide +kernel) (Nat.le_of_ble_eq_true rfl) ?_
  intro x hl he hd ha ho hh hn hin X hE
  exact wX16_counted X hE hn fu a0 a1 M h
/-! WebHostModel.damage(II)Z -/
def fX16_damage_L79 (fu : Nat)  (a0 : Nat) (a1 : Int32) (a2 : Int32)  (M : Mm) : Option (Int32 × Mm) :=
    (gR M 16 1026 (some a0)).bind fun v1 =>
    (pA M 100 v1 a1 (Int8.toInt32 (Int32.toInt8 (Int8.toInt32 (Int32.toInt8 a2))))).bind fun M2 =>
    rN .boolean (1 : Int32) M2
def fX16_damage_L73 (fu : Nat) (k16 : Nat → Int32 → Int32 → Int32 → Mm → Option (Int32 × Mm)) (a0 : Nat) (a1 : Int32) (a2 : Int32) (a3 : Int32)  (M : Mm) : Option (Int32 × Mm) :=
    k16 a0 a1 a2 (a3 + (1 : Int32)) M
def fX16_damage_L16 (fu : Nat)  : Nat → Nat → Int32 → Int32 → Int32 → Mm → Option (Int32 × Mm)
  | 0, _, _, _, _, _ => none
  | n + 1, a0, a1, a2, a3, M =>
    if (16 : Int32) ≤ a3 then (
    fX16_damage_L79 fu  a0 a1 a2 M)
    else (
    (gI M 16 1028 (some a0)).bind fun v1 =>
    if v1 = 0 then (
    fX16_damage_L79 fu  a0 a1 a2 M)
    else (
    (gR M 16 1055 (some a0)).bind fun v2 =>
    (gB M 122 v2 a3).bind fun v3 =>
    (gI M 12 768 v3).bind fun v4 =>
    if v4 = 0 then (
    fX16_damage_L73 fu (fun b0 b1 b2 b3 M => fX16_damage_L16 fu  n b0 b1 b2 b3 M) a0 a1 a2 a3 M)
    else (
    (gI M 12 772 v3).bind fun v5 =>
    (gI M 12 774 v3).bind fun v6 =>
    if v5 = v6 then (
    (gI M 12 773 v3).bind fun v7 =>
    (rc M 12 v3).bind fun q8 =>
    b2 (fX12_left fu q8 v7 M) fun v10 M9 =>
    if v10 ≤ 0 then (
    fX16_damage_L73 fu (fun b0 b1 b2 b3 M => fX16_damage_L16 fu  n b0 b1 b2 b3 M) a0 a1 a2 a3 M9)
    else (
    rN .boolean (0 : Int32) M9))
    else (
    rN .boolean (0 : Int32) M))))
def fX16_damage (fu : Nat)  (a0 : Nat) (a1 : Int32) (a2 : Int32)  (M : Mm) : Option (Int32 × Mm) :=
    if a1 < 0 then (
    rN .boolean (0 : Int32) M)
    else (
    (gI M 16 1027 (some a0)).bind fun v1 =>
    if a1 < v1 then (
    fX16_damage_L16 fu  fu a0 a1 a2 (0 : Int32) M)
    else (
    rN .boolean (0 : Int32) M))
theorem dX16_damage_0 : decode cX16_damage 0 = .ok (.iload_n 1, 1) := by decide +kernel
theorem dX16_damage_1 : decode cX16_damage 1 = .ok (.ifCond .lt 11, 3) := by decide +kernel
theorem dX16_damage_4 : decode cX16_damage 4 = .ok (.iload_n 1, 1) := by decide +kernel
theorem dX16_damage_5 : decode cX16_damage 5 = .ok (.aload_n 0, 1) := by decide +kernel
theorem dX16_damage_6 : decode cX16_damage 6 = .ok (.getfield 92, 3) := by decide +kernel
theorem dX16_damage_9 : decode cX16_damage 9 = .ok (.if_icmp .lt 5, 3) := by decide +kernel
theorem dX16_damage_12 : decode cX16_damage 12 = .ok (.iconst 0, 1) := by decide +kernel
theorem dX16_damage_13 : decode cX16_damage 13 = .ok (.ireturn, 1) := by decide +kernel
theorem dX16_damage_14 : decode cX16_damage 14 = .ok (.iconst 0, 1) := by decide +kernel
theorem dX16_damage_15 : decode cX16_damage 15 = .ok (.istore_n 3, 1) := by decide +kernel
theorem dX16_damage_16 : decode cX16_damage 16 = .ok (.iload_n 3, 1) := by decide +kernel
theorem dX16_damage_17 : decode cX16_damage 17 = .ok (.bipush 16, 2) := by decide +kernel
theorem dX16_damage_19 : decode cX16_damage 19 = .ok (.if_icmp .ge 60, 3) := by decide +kernel
theorem dX16_damage_22 : decode cX16_damage 22 = .ok (.aload_n 0, 1) := by decide +kernel
theorem dX16_damage_23 : decode cX16_damage 23 = .ok (.getfield 95, 3) := by decide +kernel
theorem dX16_damage_26 : decode cX16_damage 26 = .ok (.ifCond .eq 53, 3) := by decide +kernel
theorem dX16_damage_29 : decode cX16_damage 29 = .ok (.aload_n 0, 1) := by decide +kernel
theorem dX16_damage_30 : decode cX16_damage 30 = .ok (.getfield 70, 3) := by decide +kernel
theorem dX16_damage_33 : decode cX16_damage 33 = .ok (.iload_n 3, 1) := by decide +kernel
theorem dX16_damage_34 : decode cX16_damage 34 = .ok (.aaload, 1) := by decide +kernel
theorem dX16_damage_35 : decode cX16_damage 35 = .ok (.astore 4, 2) := by decide +kernel
theorem dX16_damage_37 : decode cX16_damage 37 = .ok (.aload 4, 2) := by decide +kernel
theorem dX16_damage_39 : decode cX16_damage 39 = .ok (.getfield 152, 3) := by decide +kernel
theorem dX16_damage_42 : decode cX16_damage 42 = .ok (.ifCond .eq 31, 3) := by decide +kernel
theorem dX16_damage_45 : decode cX16_damage 45 = .ok (.aload 4, 2) := by decide +kernel
theorem dX16_damage_47 : decode cX16_damage 47 = .ok (.getfield 428, 3) := by decide +kernel
theorem dX16_damage_50 : decode cX16_damage 50 = .ok (.aload 4, 2) := by decide +kernel
theorem dX16_damage_52 : decode cX16_damage 52 = .ok (.getfield 361, 3) := by decide +kernel
theorem dX16_damage_55 : decode cX16_damage 55 = .ok (.if_icmp .ne 16, 3) := by decide +kernel
theorem dX16_damage_58 : decode cX16_damage 58 = .ok (.aload 4, 2) := by decide +kernel
theorem dX16_damage_60 : decode cX16_damage 60 = .ok (.aload 4, 2) := by decide +kernel
theorem dX16_damage_62 : decode cX16_damage 62 = .ok (.getfield 345, 3) := by decide +kernel
theorem dX16_damage_65 : decode cX16_damage 65 = .ok (.invokevirtual 425, 3) := by decide +kernel
theorem dX16_damage_68 : decode cX16_damage 68 = .ok (.ifCond .le 5, 3) := by decide +kernel
theorem dX16_damage_71 : decode cX16_damage 71 = .ok (.iconst 0, 1) := by decide +kernel
theorem dX16_damage_72 : decode cX16_damage 72 = .ok (.ireturn, 1) := by decide +kernel
theorem dX16_damage_73 : decode cX16_damage 73 = .ok (.iinc 3 1, 3) := by decide +kernel
theorem dX16_damage_76 : decode cX16_damage 76 = .ok (.goto (-60), 3) := by decide +kernel
theorem dX16_damage_79 : decode cX16_damage 79 = .ok (.aload_n 0, 1) := by decide +kernel
theorem dX16_damage_80 : decode cX16_damage 80 = .ok (.getfield 15, 3) := by decide +kernel
theorem dX16_damage_83 : decode cX16_damage 83 = .ok (.iload_n 1, 1) := by decide +kernel
theorem dX16_damage_84 : decode cX16_damage 84 = .ok (.iload_n 2, 1) := by decide +kernel
theorem dX16_damage_85 : decode cX16_damage 85 = .ok (.i2b, 1) := by decide +kernel
theorem dX16_damage_86 : decode cX16_damage 86 = .ok (.bastore, 1) := by decide +kernel
theorem dX16_damage_87 : decode cX16_damage 87 = .ok (.iconst 1, 1) := by decide +kernel
theorem dX16_damage_88 : decode cX16_damage 88 = .ok (.ireturn, 1) := by decide +kernel
theorem wX16_damage_L79 {x : GX} {n0 sl0 : Nat} (X : Cx x cX16_damage RX16 (some .boolean) n0 sl0 2 41) {out : Int32 × Mm} (hE : Ends x n0 sl0 (some (pI out.1)) out.2) (hn : xn x = 5) (fu : Nat)   (a0 : Nat) (a1 : Int32) (a2 : Int32)  (M : Mm) (h : fX16_damage_L79 fu  a0 a1 a2 M = some out) : Gw x M 79 [(0, pR (some a0)), (1, pI a1), (2, pI a2)] [] := by
  unfold fX16_damage_L79 at h
  refine g_aload_n X (pc := 79) 0 rfl rfl dX16_damage_79 ?_
  obtain ⟨v1, ev1, h⟩ := bd h
  refine g_getR X (pc := 80) fk_16_2 rfl rfl ev1 tb_1816 dX16_damage_80 ?_
  refine g_iload_n X (pc := 83) 1 rfl rfl dX16_damage_83 ?_
  refine g_iload_n X (pc := 84) 2 rfl rfl dX16_damage_84 ?_
  refine g_i2b X (pc := 85) dX16_damage_85 ?_
  obtain ⟨M2, eM2, h⟩ := bd h
  refine g_bastore X (pc := 86) eM2 dX16_damage_86 ?_
  refine g_iconst X (pc := 87) (v := 1) dX16_damage_87 (by decide) ?_
  obtain ⟨hz, rfl⟩ := rN_some h
  exact g_nreturn X rfl hz hE dX16_damage_88
theorem wX16_damage_L73 {x : GX} {n0 sl0 : Nat} (X : Cx x cX16_damage RX16 (some .boolean) n0 sl0 2 41) {out : Int32 × Mm} (hE : Ends x n0 sl0 (some (pI out.1)) out.2) (hn : xn x = 5) (fu : Nat) (k16 : Nat → Int32 → Int32 → Int32 → Mm → Option (Int32 × Mm)) (hk16 : ∀ (b0 : Nat) (b1 : Int32) (b2 : Int32) (b3 : Int32)  (M : Mm), k16 b0 b1 b2 b3 M = some out → Gw x M 16 [(0, pR (some b0)), (1, pI b1), (2, pI b2), (3, pI b3)] []) (a0 : Nat) (a1 : Int32) (a2 : Int32) (a3 : Int32)  (M : Mm) (h : fX16_damage_L73 fu k16 a0 a1 a2 a3 M = some out) : Gw x M 73 [(0, pR (some a0)), (1, pI a1), (2, pI a2), (3, pI a3)] [] := by
  unfold fX16_damage_L73 at h
  refine g_iinc X (pc := 73) 3 [(3, pI (a3 + (1 : Int32))), (0, pR (some a0)), (1, pI a1), (2, pI a2)] rfl (iinc_e (by decide)) (lt_n hn (by decide)) rfl dX16_damage_73 ?_
  refine g_goto X (pc := 76) (tgt := 16) dX16_damage_76 (by decide) ?_
  refine g_sub [1, 2, 3, 0] [(0, pR (some a0)), (1, pI a1), (2, pI a2), (3, pI (a3 + (1 : Int32)))] rfl ?_
  exact hk16 a0 a1 a2 (a3 + (1 : Int32)) M h
theorem wX16_damage_L16 {x : GX} {n0 sl0 : Nat} (X : Cx x cX16_damage RX16 (some .boolean) n0 sl0 2 41) {out : Int32 × Mm} (hE : Ends x n0 sl0 (some (pI out.1)) out.2) (hn : xn x = 5) (fu : Nat)   : ∀ (n : Nat) (a0 : Nat) (a1 : Int32) (a2 : Int32) (a3 : Int32)  (M : Mm), fX16_damage_L16 fu  n a0 a1 a2 a3 M = some out → Gw x M 16 [(0, pR (some a0)), (1, pI a1), (2, pI a2), (3, pI a3)] [] := by
  intro n
  induction n with
  | zero =>
    intro a0 a1 a2 a3 M h
    have h : (none : Option (Int32 × Mm)) = some out := h
    cases h
  | succ n ih =>
    intro a0 a1 a2 a3 M h
    rw [fX16_damage_L16] at h
    refine g_iload_n X (pc := 16) 3 rfl rfl dX16_damage_16 ?_
    refine g_bipush X (pc := 17) (v := 16) dX16_damage_17 (by decide) ?_
    refine g_icmp_ge X (pc := 19) (tgt := 79) dX16_damage_19 (by decide) (fun hc => ?_) (fun hc => ?_)
    · have h := (if_pos hc).symm.trans h
      refine g_sub [0, 1, 2] [(0, pR (some a0)), (1, pI a1), (2, pI a2)] rfl ?_
      exact wX16_damage_L79 X hE hn fu   a0 a1 a2 M h
    · have h := (if_neg hc).symm.trans h
      refine g_aload_n X (pc := 22) 0 rfl rfl dX16_damage_22 ?_
      obtain ⟨v1, ev1, h⟩ := bd h
      refine g_getI X (pc := 23) fk_16_4 rfl rfl ev1 tb_1818 dX16_damage_23 ?_
      refine g_if_eq X (pc := 26) (tgt := 79) dX16_damage_26 (by decide) (fun hc => ?_) (fun hc => ?_)
      · have h := (if_pos hc).symm.trans h
        refine g_sub [0, 1, 2] [(0, pR (some a0)), (1, pI a1), (2, pI a2)] rfl ?_
        exact wX16_damage_L79 X hE hn fu   a0 a1 a2 M h
      · have h := (if_neg hc).symm.trans h
        refine g_aload_n X (pc := 29) 0 rfl rfl dX16_damage_29 ?_
        obtain ⟨v2, ev2, h⟩ := bd h
        refine g_getR X (pc := 30) fk_16_31 rfl rfl ev2 tb_1845 dX16_damage_30 ?_
        refine g_iload_n X (pc := 33) 3 rfl rfl dX16_damage_33 ?_
        obtain ⟨v3, ev3, h⟩ := bd h
        refine g_aaload X (pc := 34) (k := 9) rfl rfl (by decide) ev3 dX16_damage_34 ?_
        refine g_astore X (pc := 35) [(4, pR v3), (0, pR (some a0)), (1, pI a1), (2, pI a2), (3, pI a3)] (lt_n hn (by decide)) rfl dX16_damage_35 ?_
        refine g_aload X (pc := 37) 0 rfl dX16_damage_37 ?_
        obtain ⟨v4, ev4, h⟩ := bd h
        refine g_getI X (pc := 39) fk_12_0 rfl rfl ev4 tb_1580 dX16_damage_39 ?_
        refine g_if_eq X (pc := 42) (tgt := 73) dX16_damage_42 (by decide) (fun hc => ?_) (fun hc => ?_)
        · have h := (if_pos hc).symm.trans h
          refine g_sub [1, 2, 3, 4] [(0, pR (some a0)), (1, pI a1), (2, pI a2), (3, pI a3)] rfl ?_
          exact wX16_damage_L73 X hE hn fu (fun b0 b1 b2 b3 M => fX16_damage_L16 fu  n b0 b1 b2 b3 M) ih a0 a1 a2 a3 M h
        · have h := (if_neg hc).symm.trans h
          refine g_aload X (pc := 45) 0 rfl dX16_damage_45 ?_
          obtain ⟨v5, ev5, h⟩ := bd h
          refine g_getI X (pc := 47) fk_12_4 rfl rfl ev5 tb_1584 dX16_damage_47 ?_
          refine g_aload X (pc := 50) 0 rfl dX16_damage_50 ?_
          obtain ⟨v6, ev6, h⟩ := bd h
          refine g_getI X (pc := 52) fk_12_6 rfl rfl ev6 tb_1586 dX16_damage_52 ?_
          refine g_icmp_ne X (pc := 55) (tgt := 71) dX16_damage_55 (by decide) (fun hc => ?_) (fun hc => ?_)
          · have h := (if_neg hc).symm.trans h
            refine g_iconst X (pc := 71) (v := 0) dX16_damage_71 (by decide) ?_
            obtain ⟨hz, rfl⟩ := rN_some h
            exact g_nreturn X rfl hz hE dX16_damage_72
          · have h := (if_pos hc).symm.trans h
            refine g_aload X (pc := 58) 0 rfl dX16_damage_58 ?_
            refine g_aload X (pc := 60) 0 rfl dX16_damage_60 ?_
            obtain ⟨v7, ev7, h⟩ := bd h
            refine g_getI X (pc := 62) fk_12_5 rfl rfl ev7 tb_1585 dX16_damage_62 ?_
            obtain ⟨q8, eq8, h⟩ := bd h
            obtain ⟨v10, M9, eM9, h⟩ := b2d h
            refine g_callV X (pc := 65) (M' := M9) (ro := some (pI v10)) (c := 12) rfl (by decide) (as := [pI v7]) (as' := [pI v7]) (st := []) eq8 (ctX12_left _ _ _ _ _ _ fu q8 v7 M _ eM9) tb_2070 tb_2067 tb_2068 tb_2069 tb_9 ⟨rfl, hyX12_left⟩ rfl rfl ⟨by decide, by decide⟩ (Nat.le_of_ble_eq_true rfl) dX16_damage_65 ?_
            refine g_if_le X (pc := 68) (tgt := 73) dX16_damage_68 (by decide) (fun hc => ?_) (fun hc => ?_)
            · have h := (if_pos hc).symm.trans h
              refine g_sub [1, 2, 3, 4] [(0, pR (some a0)), (1, pI a1), (2, pI a2), (3, pI a3)] rfl ?_
              exact wX16_damage_L73 X hE hn fu (fun b0 b1 b2 b3 M => fX16_damage_L16 fu  n b0 b1 b2 b3 M) ih a0 a1 a2 a3 M9 h
            · have h := (if_neg hc).symm.trans h
              refine g_iconst X (pc := 71) (v := 0) dX16_damage_71 (by decide) ?_
              obtain ⟨hz, rfl⟩ := rN_some h
              exact g_nreturn X rfl hz hE dX16_damage_72
theorem wX16_damage {x : GX} {n0 sl0 : Nat} (X : Cx x cX16_damage RX16 (some .boolean) n0 sl0 2 41) {out : Int32 × Mm} (hE : Ends x n0 sl0 (some (pI out.1)) out.2) (hn : xn x = 5) (fu : Nat)   (a0 : Nat) (a1 : Int32) (a2 : Int32)  (M : Mm) (h : fX16_damage fu  a0 a1 a2 M = some out) : Gw x M 0 [(0, pR (some a0)), (1, pI a1), (2, pI a2)] [] := by
  unfold fX16_damage at h
  refine g_iload_n X (pc := 0) 1 rfl rfl dX16_damage_0 ?_
  refine g_if_lt X (pc := 1) (tgt := 12) dX16_damage_1 (by decide) (fun hc => ?_) (fun hc => ?_)
  · have h := (if_pos hc).symm.trans h
    refine g_iconst X (pc := 12) (v := 0) dX16_damage_12 (by decide) ?_
    obtain ⟨hz, rfl⟩ := rN_some h
    exact g_nreturn X rfl hz hE dX16_damage_13
  · have h := (if_neg hc).symm.trans h
    refine g_iload_n X (pc := 4) 1 rfl rfl dX16_damage_4 ?_
    refine g_aload_n X (pc := 5) 0 rfl rfl dX16_damage_5 ?_
    obtain ⟨v1, ev1, h⟩ := bd h
    refine g_getI X (pc := 6) fk_16_3 rfl rfl ev1 tb_1817 dX16_damage_6 ?_
    refine g_icmp_lt X (pc := 9) (tgt := 14) dX16_damage_9 (by decide) (fun hc => ?_) (fun hc => ?_)
    · have h := (if_pos hc).symm.trans h
      refine g_iconst X (pc := 14) (v := 0) dX16_damage_14 (by decide) ?_
      refine g_istore_n X (pc := 15) [(3, pI (0 : Int32)), (0, pR (some a0)), (1, pI a1), (2, pI a2)] rfl (lt_n hn (by decide)) rfl dX16_damage_15 ?_
      refine g_sub [1, 2, 3, 0] [(0, pR (some a0)), (1, pI a1), (2, pI a2), (3, pI (0 : Int32))] rfl ?_
      exact wX16_damage_L16 X hE hn fu   fu a0 a1 a2 (0 : Int32) M h
    · have h := (if_neg hc).symm.trans h
      refine g_iconst X (pc := 12) (v := 0) dX16_damage_12 (by decide) ?_
      obtain ⟨hz, rfl⟩ := rN_some h
      exact g_nreturn X rfl hz hE dX16_damage_13
theorem hyX16_damage : yX16_damage.cls ≠ "java/lang/invoke/MethodHandle" ∧ yX16_damage.cls ≠ "java/lang/invoke/VarHandle" ∧ (parseMethodDescriptor yX16_damage.desc).map (fun d => d.parameters.length) = some 2 := ⟨by decide +kernel, by decide +kernel, by decide +kernel⟩
theorem ctX16_damage (l : Launch) (E : Nat → Nat) (D : va_G) (dA : Nat → ClassId) (lo : Nat) (H0 : Heap) (fu : Nat) (a0 : Nat) (a1 : Int32) (a2 : Int32) (M : Mm) (out : Int32 × Mm) (h : fX16_damage fu a0 a1 a2 M = some out) : Ct l E D dA lo H0 yX16_damage cX16_damage 5 (some .boolean) 2 41 [pR (some a0), pI a1, pI a2] M (some (pI out.1)) out.2 := by
  refine ct_of (by decide +kernel) (Nat.le_of_ble_eq_true rfl) ?_
  intro x hl he hd ha ho hh hn hin X hE
  exact wX16_damage X hE hn fu a0 a1 a2 M h
/-! WebHostModel.strays()I -/
def fX16_strays (fu : Nat)  (a0 : Nat)  (M : Mm) : Option (Int32 × Mm) :=
    (gI M 16 1042 (some a0)).bind fun v1 =>
    some (v1, M)
theorem dX16_strays_0 : decode cX16_strays 0 = .ok (.aload_n 0, 1) := by decide +kernel
theorem dX16_strays_1 : decode cX16_strays 1 = .ok (.getfield 146, 3) := by decide +kernel
theorem dX16_strays_4 : decode cX16_strays 4 = .ok (.ireturn, 1) := by decide +kernel
theorem wX16_strays {x : GX} {n0 sl0 : Nat} (X : Cx x cX16_strays RX16 (some .int) n0 sl0 0 0) {out : Int32 × Mm} (hE : Ends x n0 sl0 (some (pI out.1)) out.2) (hn : xn x = 1) (fu : Nat)   (a0 : Nat)  (M : Mm) (h : fX16_strays fu  a0 M = some out) : Gw x M 0 [(0, pR (some a0))] [] := by
  unfold fX16_strays at h
  refine g_aload_n X (pc := 0) 0 rfl rfl dX16_strays_0 ?_
  obtain ⟨v1, ev1, h⟩ := bd h
  refine g_getI X (pc := 1) fk_16_18 rfl rfl ev1 tb_1832 dX16_strays_1 ?_
  obtain rfl := Option.some.inj h
  exact g_ireturn X hE dX16_strays_4
theorem hyX16_strays : yX16_strays.cls ≠ "java/lang/invoke/MethodHandle" ∧ yX16_strays.cls ≠ "java/lang/invoke/VarHandle" ∧ (parseMethodDescriptor yX16_strays.desc).map (fun d => d.parameters.length) = some 0 := ⟨by decide +kernel, by decide +kernel, by decide +kernel⟩
theorem ctX16_strays (l : Launch) (E : Nat → Nat) (D : va_G) (dA : Nat → ClassId) (lo : Nat) (H0 : Heap) (fu : Nat) (a0 : Nat) (M : Mm) (out : Int32 × Mm) (h : fX16_strays fu a0 M = some out) : Ct l E D dA lo H0 yX16_strays cX16_strays 1 (some .int) 0 0 [pR (some a0)] M (some (pI out.1)) out.2 := by
  refine ct_of (by decide +kernel) (Nat.le_of_ble_eq_true rfl) ?_
  intro x hl he hd ha ho hh hn hin X hE
  exact wX16_strays X hE hn fu a0 M h
