/-! ===== walks of methods, printed by a program of ours ===== -/
/-! WebHostModel.at(II)I -/
def fX16_at (fu : Nat)  (a0 : Nat) (a1 : Int32) (a2 : Int32)  (M : Mm) : Option (Int32 × Mm) :=
    (rc M 16 (some a0)).bind fun q1 =>
    b2 (fX16_slot fu q1 a1 M) fun v3 M2 =>
    if v3 < 0 then (
    some ((-1 : Int32), M2))
    else (
    if a2 < 0 then (
    some ((-1 : Int32), M2))
    else (
    (gR M2 16 1045 (some a0)).bind fun v4 =>
    (gA M2 101 v4 v3).bind fun v5 =>
    if a2 < v5 then (
    (gR M2 16 1044 (some a0)).bind fun v6 =>
    (gA M2 100 v6 ((v3 * (1514 : Int32)) + a2)).bind fun v7 =>
    some ((v7 &&& (255 : Int32)), M2))
    else (
    some ((-1 : Int32), M2))))
theorem dX16_at_0 : decode cX16_at 0 = .ok (.aload_n 0, 1) := by decide +kernel
theorem dX16_at_1 : decode cX16_at 1 = .ok (.iload_n 1, 1) := by decide +kernel
theorem dX16_at_2 : decode cX16_at 2 = .ok (.invokevirtual 865, 3) := by decide +kernel
theorem dX16_at_5 : decode cX16_at 5 = .ok (.istore_n 3, 1) := by decide +kernel
theorem dX16_at_6 : decode cX16_at 6 = .ok (.iload_n 3, 1) := by decide +kernel
theorem dX16_at_7 : decode cX16_at 7 = .ok (.ifCond .lt 17, 3) := by decide +kernel
theorem dX16_at_10 : decode cX16_at 10 = .ok (.iload_n 2, 1) := by decide +kernel
theorem dX16_at_11 : decode cX16_at 11 = .ok (.ifCond .lt 13, 3) := by decide +kernel
theorem dX16_at_14 : decode cX16_at 14 = .ok (.iload_n 2, 1) := by decide +kernel
theorem dX16_at_15 : decode cX16_at 15 = .ok (.aload_n 0, 1) := by decide +kernel
theorem dX16_at_16 : decode cX16_at 16 = .ok (.getfield 41, 3) := by decide +kernel
theorem dX16_at_19 : decode cX16_at 19 = .ok (.iload_n 3, 1) := by decide +kernel
theorem dX16_at_20 : decode cX16_at 20 = .ok (.iaload, 1) := by decide +kernel
theorem dX16_at_21 : decode cX16_at 21 = .ok (.if_icmp .lt 7, 3) := by decide +kernel
theorem dX16_at_24 : decode cX16_at 24 = .ok (.iconst (-1), 1) := by decide +kernel
theorem dX16_at_25 : decode cX16_at 25 = .ok (.goto 19, 3) := by decide +kernel
theorem dX16_at_28 : decode cX16_at 28 = .ok (.aload_n 0, 1) := by decide +kernel
theorem dX16_at_29 : decode cX16_at 29 = .ok (.getfield 38, 3) := by decide +kernel
theorem dX16_at_32 : decode cX16_at 32 = .ok (.iload_n 3, 1) := by decide +kernel
theorem dX16_at_33 : decode cX16_at 33 = .ok (.sipush 1514, 3) := by decide +kernel
theorem dX16_at_36 : decode cX16_at 36 = .ok (.imul, 1) := by decide +kernel
theorem dX16_at_37 : decode cX16_at 37 = .ok (.iload_n 2, 1) := by decide +kernel
theorem dX16_at_38 : decode cX16_at 38 = .ok (.iadd, 1) := by decide +kernel
theorem dX16_at_39 : decode cX16_at 39 = .ok (.baload, 1) := by decide +kernel
theorem dX16_at_40 : decode cX16_at 40 = .ok (.sipush 255, 3) := by decide +kernel
theorem dX16_at_43 : decode cX16_at 43 = .ok (.iand, 1) := by decide +kernel
theorem dX16_at_44 : decode cX16_at 44 = .ok (.ireturn, 1) := by decide +kernel
theorem wX16_at {x : GX} {n0 sl0 : Nat} (X : Cx x cX16_at RX16 (some .int) n0 sl0 1 21) {out : Int32 × Mm} (hE : Ends x n0 sl0 (some (pI out.1)) out.2) (hn : xn x = 4) (fu : Nat)   (a0 : Nat) (a1 : Int32) (a2 : Int32)  (M : Mm) (h : fX16_at fu  a0 a1 a2 M = some out) : Gw x M 0 [(0, pR (some a0)), (1, pI a1), (2, pI a2)] [] := by
  unfold fX16_at at h
  refine g_aload_n X (pc := 0) 0 rfl rfl dX16_at_0 ?_
  refine g_iload_n X (pc := 1) 1 rfl rfl dX16_at_1 ?_
  obtain ⟨q1, eq1, h⟩ := bd h
  obtain ⟨v3, M2, eM2, h⟩ := b2d h
  refine g_callV X (pc := 2) (M' := M2) (ro := some (pI v3)) (c := 16) rfl (by decide) (as := [pI a1]) (as' := [pI a1]) (st := []) eq1 (ctX16_slot _ _ _ _ _ _ fu q1 a1 M _ eM2) tb_2507 tb_2504 tb_2506 ts_143 tb_8 ⟨rfl, hyX16_slot⟩ rfl rfl ⟨by decide, by decide⟩ (Nat.le_of_ble_eq_true rfl) dX16_at_2 ?_
  refine g_istore_n X (pc := 5) [(3, pI v3), (0, pR (some a0)), (1, pI a1), (2, pI a2)] rfl (lt_n hn (by decide)) rfl dX16_at_5 ?_
  refine g_iload_n X (pc := 6) 0 rfl rfl dX16_at_6 ?_
  refine g_if_lt X (pc := 7) (tgt := 24) dX16_at_7 (by decide) (fun hc => ?_) (fun hc => ?_)
  · have h := (if_pos hc).symm.trans h
    refine g_iconst X (pc := 24) (v := (-1)) dX16_at_24 (by decide) ?_
    refine g_goto X (pc := 25) (tgt := 44) dX16_at_25 (by decide) ?_
    obtain rfl := Option.some.inj h
    exact g_ireturn X hE dX16_at_44
  · have h := (if_neg hc).symm.trans h
    refine g_iload_n X (pc := 10) 3 rfl rfl dX16_at_10 ?_
    refine g_if_lt X (pc := 11) (tgt := 24) dX16_at_11 (by decide) (fun hc => ?_) (fun hc => ?_)
    · have h := (if_pos hc).symm.trans h
      refine g_iconst X (pc := 24) (v := (-1)) dX16_at_24 (by decide) ?_
      refine g_goto X (pc := 25) (tgt := 44) dX16_at_25 (by decide) ?_
      obtain rfl := Option.some.inj h
      exact g_ireturn X hE dX16_at_44
    · have h := (if_neg hc).symm.trans h
      refine g_iload_n X (pc := 14) 3 rfl rfl dX16_at_14 ?_
      refine g_aload_n X (pc := 15) 1 rfl rfl dX16_at_15 ?_
      obtain ⟨v4, ev4, h⟩ := bd h
      refine g_getR X (pc := 16) fk_16_21 rfl rfl ev4 tb_1835 dX16_at_16 ?_
      refine g_iload_n X (pc := 19) 0 rfl rfl dX16_at_19 ?_
      obtain ⟨v5, ev5, h⟩ := bd h
      refine g_iaload X (pc := 20) ev5 dX16_at_20 ?_
      refine g_icmp_lt X (pc := 21) (tgt := 28) dX16_at_21 (by decide) (fun hc => ?_) (fun hc => ?_)
      · have h := (if_pos hc).symm.trans h
        refine g_aload_n X (pc := 28) 1 rfl rfl dX16_at_28 ?_
        obtain ⟨v6, ev6, h⟩ := bd h
        refine g_getR X (pc := 29) fk_16_20 rfl rfl ev6 tb_1834 dX16_at_29 ?_
        refine g_iload_n X (pc := 32) 0 rfl rfl dX16_at_32 ?_
        refine g_sipush X (pc := 33) (v := 1514) dX16_at_33 (by decide) ?_
        refine g_imul X (pc := 36) dX16_at_36 ?_
        refine g_iload_n X (pc := 37) 3 rfl rfl dX16_at_37 ?_
        refine g_iadd X (pc := 38) dX16_at_38 ?_
        obtain ⟨v7, ev7, h⟩ := bd h
        refine g_baload X (pc := 39) ev7 dX16_at_39 ?_
        refine g_sipush X (pc := 40) (v := 255) dX16_at_40 (by decide) ?_
        refine g_iand X (pc := 43) dX16_at_43 ?_
        obtain rfl := Option.some.inj h
        exact g_ireturn X hE dX16_at_44
      · have h := (if_neg hc).symm.trans h
        refine g_iconst X (pc := 24) (v := (-1)) dX16_at_24 (by decide) ?_
        refine g_goto X (pc := 25) (tgt := 44) dX16_at_25 (by decide) ?_
        obtain rfl := Option.some.inj h
        exact g_ireturn X hE dX16_at_44
theorem hyX16_at : yX16_at.cls ≠ "java/lang/invoke/MethodHandle" ∧ yX16_at.cls ≠ "java/lang/invoke/VarHandle" ∧ (parseMethodDescriptor yX16_at.desc).map (fun d => d.parameters.length) = some 2 := ⟨by decide +kernel, by decide +kernel, by decide +kernel⟩
theorem ctX16_at (l : Launch) (E : Nat → Nat) (D : va_G) (dA : Nat → ClassId) (lo : Nat) (H0 : Heap) (fu : Nat) (a0 : Nat) (a1 : Int32) (a2 : Int32) (M : Mm) (out : Int32 × Mm) (h : fX16_at fu a0 a1 a2 M = some out) : Ct l E D dA lo H0 yX16_at cX16_at 4 (some .int) 1 21 [pR (some a0), pI a1, pI a2] M (some (pI out.1)) out.2 := by
  refine ct_of (by decide +kernel) (Nat.le_of_ble_eq_true rfl) ?_
  intro x hl he hd ha ho hh hn hin X hE
  exact wX16_at X hE hn fu a0 a1 a2 M h
/-! WebHostModel.time(I)I -/
def fX16_time (fu : Nat)  (a0 : Nat) (a1 : Int32)  (M : Mm) : Option (Int32 × Mm) :=
    (rc M 16 (some a0)).bind fun q1 =>
    b2 (fX16_slot fu q1 a1 M) fun v3 M2 =>
    if 0 ≤ v3 then (
    (gR M2 16 1046 (some a0)).bind fun v4 =>
    (rc M2 16 (some a0)).bind fun q5 =>
    b2 (fX16_slot fu q5 a1 M2) fun v7 M6 =>
    (gA M6 101 v4 v7).bind fun v8 =>
    some (v8, M6))
    else (
    some ((-1 : Int32), M2))
theorem dX16_time_0 : decode cX16_time 0 = .ok (.aload_n 0, 1) := by decide +kernel
theorem dX16_time_1 : decode cX16_time 1 = .ok (.iload_n 1, 1) := by decide +kernel
theorem dX16_time_2 : decode cX16_time 2 = .ok (.invokevirtual 865, 3) := by decide +kernel
theorem dX16_time_5 : decode cX16_time 5 = .ok (.ifCond .ge 7, 3) := by decide +kernel
theorem dX16_time_8 : decode cX16_time 8 = .ok (.iconst (-1), 1) := by decide +kernel
theorem dX16_time_9 : decode cX16_time 9 = .ok (.goto 13, 3) := by decide +kernel
theorem dX16_time_12 : decode cX16_time 12 = .ok (.aload_n 0, 1) := by decide +kernel
theorem dX16_time_13 : decode cX16_time 13 = .ok (.getfield 44, 3) := by decide +kernel
theorem dX16_time_16 : decode cX16_time 16 = .ok (.aload_n 0, 1) := by decide +kernel
theorem dX16_time_17 : decode cX16_time 17 = .ok (.iload_n 1, 1) := by decide +kernel
theorem dX16_time_18 : decode cX16_time 18 = .ok (.invokevirtual 865, 3) := by decide +kernel
theorem dX16_time_21 : decode cX16_time 21 = .ok (.iaload, 1) := by decide +kernel
theorem dX16_time_22 : decode cX16_time 22 = .ok (.ireturn, 1) := by decide +kernel
theorem wX16_time {x : GX} {n0 sl0 : Nat} (X : Cx x cX16_time RX16 (some .int) n0 sl0 1 21) {out : Int32 × Mm} (hE : Ends x n0 sl0 (some (pI out.1)) out.2) (hn : xn x = 2) (fu : Nat)   (a0 : Nat) (a1 : Int32)  (M : Mm) (h : fX16_time fu  a0 a1 M = some out) : Gw x M 0 [(0, pR (some a0)), (1, pI a1)] [] := by
  unfold fX16_time at h
  refine g_aload_n X (pc := 0) 0 rfl rfl dX16_time_0 ?_
  refine g_iload_n X (pc := 1) 1 rfl rfl dX16_time_1 ?_
  obtain ⟨q1, eq1, h⟩ := bd h
  obtain ⟨v3, M2, eM2, h⟩ := b2d h
  refine g_callV X (pc := 2) (M' := M2) (ro := some (pI v3)) (c := 16) rfl (by decide) (as := [pI a1]) (as' := [pI a1]) (st := []) eq1 (ctX16_slot _ _ _ _ _ _ fu q1 a1 M _ eM2) tb_2507 tb_2504 tb_2506 ts_143 tb_8 ⟨rfl, hyX16_slot⟩ rfl rfl ⟨by decide, by decide⟩ (Nat.le_of_ble_eq_true rfl) dX16_time_2 ?_
  refine g_if_ge X (pc := 5) (tgt := 12) dX16_time_5 (by decide) (fun hc => ?_) (fun hc => ?_)
  · have h := (if_pos hc).symm.trans h
    refine g_aload_n X (pc := 12) 0 rfl rfl dX16_time_12 ?_
    obtain ⟨v4, ev4, h⟩ := bd h
    refine g_getR X (pc := 13) fk_16_22 rfl rfl ev4 tb_1836 dX16_time_13 ?_
    refine g_aload_n X (pc := 16) 0 rfl rfl dX16_time_16 ?_
    refine g_iload_n X (pc := 17) 1 rfl rfl dX16_time_17 ?_
    obtain ⟨q5, eq5, h⟩ := bd h
    obtain ⟨v7, M6, eM6, h⟩ := b2d h
    refine g_callV X (pc := 18) (M' := M6) (ro := some (pI v7)) (c := 16) rfl (by decide) (as := [pI a1]) (as' := [pI a1]) (st := [pR v4]) eq5 (ctX16_slot _ _ _ _ _ _ fu q5 a1 M2 _ eM6) tb_2507 tb_2504 tb_2506 ts_143 tb_8 ⟨rfl, hyX16_slot⟩ rfl rfl ⟨by decide, by decide⟩ (Nat.le_of_ble_eq_true rfl) dX16_time_18 ?_
    obtain ⟨v8, ev8, h⟩ := bd h
    refine g_iaload X (pc := 21) ev8 dX16_time_21 ?_
    obtain rfl := Option.some.inj h
    exact g_ireturn X hE dX16_time_22
  · have h := (if_neg hc).symm.trans h
    refine g_iconst X (pc := 8) (v := (-1)) dX16_time_8 (by decide) ?_
    refine g_goto X (pc := 9) (tgt := 22) dX16_time_9 (by decide) ?_
    obtain rfl := Option.some.inj h
    exact g_ireturn X hE dX16_time_22
theorem hyX16_time : yX16_time.cls ≠ "java/lang/invoke/MethodHandle" ∧ yX16_time.cls ≠ "java/lang/invoke/VarHandle" ∧ (parseMethodDescriptor yX16_time.desc).map (fun d => d.parameters.length) = some 1 := ⟨by decide +kernel, by decide +kernel, by decide +kernel⟩
theorem ctX16_time (l : Launch) (E : Nat → Nat) (D : va_G) (dA : Nat → ClassId) (lo : Nat) (H0 : Heap) (fu : Nat) (a0 : Nat) (a1 : Int32) (M : Mm) (out : Int32 × Mm) (h : fX16_time fu a0 a1 M = some out) : Ct l E D dA lo H0 yX16_time cX16_time 2 (some .int) 1 21 [pR (some a0), pI a1] M (some (pI out.1)) out.2 := by
  refine ct_of (by decide +kernel) (Nat.le_of_ble_eq_true rfl) ?_
  intro x hl he hd ha ho hh hn hin X hE
  exact wX16_time X hE hn fu a0 a1 M h
/-! WebHostModel.state(I)I -/
def fX16_state (fu : Nat)  (a0 : Nat) (a1 : Int32)  (M : Mm) : Option (Int32 × Mm) :=
    if a1 < 0 then (
    some ((-1 : Int32), M))
    else (
    if a1 < (16 : Int32) then (
    (gI M 16 1028 (some a0)).bind fun v1 =>
    if v1 = 0 then (
    some ((0 : Int32), M))
    else (
    (gR M 16 1055 (some a0)).bind fun v2 =>
    (gB M 122 v2 a1).bind fun v3 =>
    (gI M 12 768 v3).bind fun v4 =>
    some (v4, M)))
    else (
    some ((-1 : Int32), M)))
theorem dX16_state_0 : decode cX16_state 0 = .ok (.iload_n 1, 1) := by decide +kernel
theorem dX16_state_1 : decode cX16_state 1 = .ok (.ifCond .lt 9, 3) := by decide +kernel
theorem dX16_state_4 : decode cX16_state 4 = .ok (.iload_n 1, 1) := by decide +kernel
theorem dX16_state_5 : decode cX16_state 5 = .ok (.bipush 16, 2) := by decide +kernel
theorem dX16_state_7 : decode cX16_state 7 = .ok (.if_icmp .lt 7, 3) := by decide +kernel
theorem dX16_state_10 : decode cX16_state 10 = .ok (.iconst (-1), 1) := by decide +kernel
theorem dX16_state_11 : decode cX16_state 11 = .ok (.goto 23, 3) := by decide +kernel
theorem dX16_state_14 : decode cX16_state 14 = .ok (.aload_n 0, 1) := by decide +kernel
theorem dX16_state_15 : decode cX16_state 15 = .ok (.getfield 95, 3) := by decide +kernel
theorem dX16_state_18 : decode cX16_state 18 = .ok (.ifCond .eq 15, 3) := by decide +kernel
theorem dX16_state_21 : decode cX16_state 21 = .ok (.aload_n 0, 1) := by decide +kernel
theorem dX16_state_22 : decode cX16_state 22 = .ok (.getfield 70, 3) := by decide +kernel
theorem dX16_state_25 : decode cX16_state 25 = .ok (.iload_n 1, 1) := by decide +kernel
theorem dX16_state_26 : decode cX16_state 26 = .ok (.aaload, 1) := by decide +kernel
theorem dX16_state_27 : decode cX16_state 27 = .ok (.getfield 152, 3) := by decide +kernel
theorem dX16_state_30 : decode cX16_state 30 = .ok (.goto 4, 3) := by decide +kernel
theorem dX16_state_33 : decode cX16_state 33 = .ok (.iconst 0, 1) := by decide +kernel
theorem dX16_state_34 : decode cX16_state 34 = .ok (.ireturn, 1) := by decide +kernel
theorem wX16_state {x : GX} {n0 sl0 : Nat} (X : Cx x cX16_state RX16 (some .int) n0 sl0 0 0) {out : Int32 × Mm} (hE : Ends x n0 sl0 (some (pI out.1)) out.2) (hn : xn x = 2) (fu : Nat)   (a0 : Nat) (a1 : Int32)  (M : Mm) (h : fX16_state fu  a0 a1 M = some out) : Gw x M 0 [(0, pR (some a0)), (1, pI a1)] [] := by
  unfold fX16_state at h
  refine g_iload_n X (pc := 0) 1 rfl rfl dX16_state_0 ?_
  refine g_if_lt X (pc := 1) (tgt := 10) dX16_state_1 (by decide) (fun hc => ?_) (fun hc => ?_)
  · have h := (if_pos hc).symm.trans h
    refine g_iconst X (pc := 10) (v := (-1)) dX16_state_10 (by decide) ?_
    refine g_goto X (pc := 11) (tgt := 34) dX16_state_11 (by decide) ?_
    obtain rfl := Option.some.inj h
    exact g_ireturn X hE dX16_state_34
  · have h := (if_neg hc).symm.trans h
    refine g_iload_n X (pc := 4) 1 rfl rfl dX16_state_4 ?_
    refine g_bipush X (pc := 5) (v := 16) dX16_state_5 (by decide) ?_
    refine g_icmp_lt X (pc := 7) (tgt := 14) dX16_state_7 (by decide) (fun hc => ?_) (fun hc => ?_)
    · have h := (if_pos hc).symm.trans h
      refine g_aload_n X (pc := 14) 0 rfl rfl dX16_state_14 ?_
      obtain ⟨v1, ev1, h⟩ := bd h
      refine g_getI X (pc := 15) fk_16_4 rfl rfl ev1 tb_1818 dX16_state_15 ?_
      refine g_if_eq X (pc := 18) (tgt := 33) dX16_state_18 (by decide) (fun hc => ?_) (fun hc => ?_)
      · have h := (if_pos hc).symm.trans h
        refine g_iconst X (pc := 33) (v := 0) dX16_state_33 (by decide) ?_
        obtain rfl := Option.some.inj h
        exact g_ireturn X hE dX16_state_34
      · have h := (if_neg hc).symm.trans h
        refine g_aload_n X (pc := 21) 0 rfl rfl dX16_state_21 ?_
        obtain ⟨v2, ev2, h⟩ := bd h
        refine g_getR X (pc := 22) fk_16_31 rfl rfl ev2 tb_1845 dX16_state_22 ?_
        refine g_iload_n X (pc := 25) 1 rfl rfl dX16_state_25 ?_
        obtain ⟨v3, ev3, h⟩ := bd h
        refine g_aaload X (pc := 26) (k := 9) rfl rfl (by decide) ev3 dX16_state_26 ?_
        obtain ⟨v4, ev4, h⟩ := bd h
        refine g_getI X (pc := 27) fk_12_0 rfl rfl ev4 tb_1580 dX16_state_27 ?_
        refine g_goto X (pc := 30) (tgt := 34) dX16_state_30 (by decide) ?_
        obtain rfl := Option.some.inj h
        exact g_ireturn X hE dX16_state_34
    · have h := (if_neg hc).symm.trans h
      refine g_iconst X (pc := 10) (v := (-1)) dX16_state_10 (by decide) ?_
      refine g_goto X (pc := 11) (tgt := 34) dX16_state_11 (by decide) ?_
      obtain rfl := Option.some.inj h
      exact g_ireturn X hE dX16_state_34
theorem hyX16_state : yX16_state.cls ≠ "java/lang/invoke/MethodHandle" ∧ yX16_state.cls ≠ "java/lang/invoke/VarHandle" ∧ (parseMethodDescriptor yX16_state.desc).map (fun d => d.parameters.length) = some 1 := ⟨by decide +kernel, by decide +kernel, by decide +kernel⟩
theorem ctX16_state (l : Launch) (E : Nat → Nat) (D : va_G) (dA : Nat → ClassId) (lo : Nat) (H0 : Heap) (fu : Nat) (a0 : Nat) (a1 : Int32) (M : Mm) (out : Int32 × Mm) (h : fX16_state fu a0 a1 M = some out) : Ct l E D dA lo H0 yX16_state cX16_state 2 (some .int) 0 0 [pR (some a0), pI a1] M (some (pI out.1)) out.2 := by
  refine ct_of (by decide +kernel) (Nat.le_of_ble_eq_true rfl) ?_
  intro x hl he hd ha ho hh hn hin X hE
  exact wX16_state X hE hn fu a0 a1 M h
/-! WebHostModel.look(II)J -/
def fX16_look (fu : Nat)  (a0 : Nat) (a1 : Int32) (a2 : Int32)  (M : Mm) : Option (Int64 × Mm) :=
    (rc M 16 (some a0)).bind fun q1 =>
    b2 (fX16_state fu q1 a1 M) fun v3 M2 =>
    if 0 < v3 then (
    (gR M2 16 1055 (some a0)).bind fun v4 =>
    (gB M2 122 v4 a1).bind fun v5 =>
    if a2 = (0 : Int32) then (
    (gI M2 12 769 v5).bind fun v6 =>
    some (((Int32.toInt64 v6) &&& (4294967295 : Int64)), M2))
    else (
    if a2 = (1 : Int32) then (
    (gI M2 12 770 v5).bind fun v7 =>
    some ((Int32.toInt64 v7), M2))
    else (
    if a2 = (2 : Int32) then (
    (gI M2 12 772 v5).bind fun v8 =>
    some (((Int32.toInt64 v8) &&& (4294967295 : Int64)), M2))
    else (
    if a2 = (3 : Int32) then (
    (gI M2 12 773 v5).bind fun v9 =>
    some (((Int32.toInt64 v9) &&& (4294967295 : Int64)), M2))
    else (
    if a2 = (4 : Int32) then (
    (gI M2 12 774 v5).bind fun v10 =>
    some (((Int32.toInt64 v10) &&& (4294967295 : Int64)), M2))
    else (
    if a2 = (5 : Int32) then (
    (gI M2 12 804 v5).bind fun v11 =>
    some (((Int32.toInt64 v11) &&& (4294967295 : Int64)), M2))
    else (
    if a2 = (6 : Int32) then (
    (gI M2 12 775 v5).bind fun v12 =>
    some ((Int32.toInt64 v12), M2))
    else (
    if a2 = (7 : Int32) then (
    (gI M2 12 779 v5).bind fun v13 =>
    some ((Int32.toInt64 v13), M2))
    else (
    if a2 = (8 : Int32) then (
    (gI M2 12 780 v5).bind fun v14 =>
    some ((Int32.toInt64 v14), M2))
    else (
    if a2 = (9 : Int32) then (
    (gI M2 12 781 v5).bind fun v15 =>
    some ((Int32.toInt64 v15), M2))
    else (
    if a2 = (10 : Int32) then (
    (gI M2 12 778 v5).bind fun v16 =>
    some ((Int32.toInt64 v16), M2))
    else (
    if a2 = (11 : Int32) then (
    (rc M2 12 v5).bind fun q17 =>
    b2 (fX12_held fu q17  M2) fun v19 M18 =>
    some ((Int32.toInt64 v19), M18))
    else (
    if a2 = (12 : Int32) then (
    (gI M2 12 768 v5).bind fun v20 =>
    if v20 = (1 : Int32) then (
    some ((0 : Int64), M2))
    else (
    (gI M2 12 773 v5).bind fun v21 =>
    (rc M2 12 v5).bind fun q22 =>
    b2 (fX12_left fu q22 v21 M2) fun v24 M23 =>
    some ((Int32.toInt64 v24), M23)))
    else (
    if a2 = (13 : Int32) then (
    (gI M2 12 791 v5).bind fun v25 =>
    some ((Int32.toInt64 v25), M2))
    else (
    if a2 = (14 : Int32) then (
    (gI M2 12 792 v5).bind fun v26 =>
    some ((Int32.toInt64 v26), M2))
    else (
    some ((4294967296 : Int64), M2)))))))))))))))))
    else (
    some ((4294967296 : Int64), M2))
theorem dX16_look_0 : decode cX16_look 0 = .ok (.aload_n 0, 1) := by decide +kernel
theorem dX16_look_1 : decode cX16_look 1 = .ok (.iload_n 1, 1) := by decide +kernel
theorem dX16_look_2 : decode cX16_look 2 = .ok (.invokevirtual 868, 3) := by decide +kernel
theorem dX16_look_5 : decode cX16_look 5 = .ok (.ifCond .gt 7, 3) := by decide +kernel
theorem dX16_look_8 : decode cX16_look 8 = .ok (.ldc2_w 870, 3) := by decide +kernel
theorem dX16_look_11 : decode cX16_look 11 = .ok (.lreturn, 1) := by decide +kernel
theorem dX16_look_12 : decode cX16_look 12 = .ok (.aload_n 0, 1) := by decide +kernel
theorem dX16_look_13 : decode cX16_look 13 = .ok (.getfield 70, 3) := by decide +kernel
theorem dX16_look_16 : decode cX16_look 16 = .ok (.iload_n 1, 1) := by decide +kernel
theorem dX16_look_17 : decode cX16_look 17 = .ok (.aaload, 1) := by decide +kernel
theorem dX16_look_18 : decode cX16_look 18 = .ok (.astore_n 3, 1) := by decide +kernel
theorem dX16_look_19 : decode cX16_look 19 = .ok (.iload_n 2, 1) := by decide +kernel
theorem dX16_look_20 : decode cX16_look 20 = .ok (.tableswitch 202 0 14 #[76, 86, 92, 102, 112, 122, 132, 138, 144, 150, 156, 162, 168, 190, 196], 76) := by decide +kernel
theorem dX16_look_96 : decode cX16_look 96 = .ok (.aload_n 3, 1) := by decide +kernel
theorem dX16_look_97 : decode cX16_look 97 = .ok (.getfield 314, 3) := by decide +kernel
theorem dX16_look_100 : decode cX16_look 100 = .ok (.i2l, 1) := by decide +kernel
theorem dX16_look_101 : decode cX16_look 101 = .ok (.ldc2_w 872, 3) := by decide +kernel
theorem dX16_look_104 : decode cX16_look 104 = .ok (.land, 1) := by decide +kernel
theorem dX16_look_105 : decode cX16_look 105 = .ok (.lreturn, 1) := by decide +kernel
theorem dX16_look_106 : decode cX16_look 106 = .ok (.aload_n 3, 1) := by decide +kernel
theorem dX16_look_107 : decode cX16_look 107 = .ok (.getfield 315, 3) := by decide +kernel
theorem dX16_look_110 : decode cX16_look 110 = .ok (.i2l, 1) := by decide +kernel
theorem dX16_look_111 : decode cX16_look 111 = .ok (.lreturn, 1) := by decide +kernel
theorem dX16_look_112 : decode cX16_look 112 = .ok (.aload_n 3, 1) := by decide +kernel
theorem dX16_look_113 : decode cX16_look 113 = .ok (.getfield 428, 3) := by decide +kernel
theorem dX16_look_116 : decode cX16_look 116 = .ok (.i2l, 1) := by decide +kernel
theorem dX16_look_117 : decode cX16_look 117 = .ok (.ldc2_w 872, 3) := by decide +kernel
theorem dX16_look_120 : decode cX16_look 120 = .ok (.land, 1) := by decide +kernel
theorem dX16_look_121 : decode cX16_look 121 = .ok (.lreturn, 1) := by decide +kernel
theorem dX16_look_122 : decode cX16_look 122 = .ok (.aload_n 3, 1) := by decide +kernel
theorem dX16_look_123 : decode cX16_look 123 = .ok (.getfield 345, 3) := by decide +kernel
theorem dX16_look_126 : decode cX16_look 126 = .ok (.i2l, 1) := by decide +kernel
theorem dX16_look_127 : decode cX16_look 127 = .ok (.ldc2_w 872, 3) := by decide +kernel
theorem dX16_look_130 : decode cX16_look 130 = .ok (.land, 1) := by decide +kernel
theorem dX16_look_131 : decode cX16_look 131 = .ok (.lreturn, 1) := by decide +kernel
theorem dX16_look_132 : decode cX16_look 132 = .ok (.aload_n 3, 1) := by decide +kernel
theorem dX16_look_133 : decode cX16_look 133 = .ok (.getfield 361, 3) := by decide +kernel
theorem dX16_look_136 : decode cX16_look 136 = .ok (.i2l, 1) := by decide +kernel
theorem dX16_look_137 : decode cX16_look 137 = .ok (.ldc2_w 872, 3) := by decide +kernel
theorem dX16_look_140 : decode cX16_look 140 = .ok (.land, 1) := by decide +kernel
theorem dX16_look_141 : decode cX16_look 141 = .ok (.lreturn, 1) := by decide +kernel
theorem dX16_look_142 : decode cX16_look 142 = .ok (.aload_n 3, 1) := by decide +kernel
theorem dX16_look_143 : decode cX16_look 143 = .ok (.getfield 348, 3) := by decide +kernel
theorem dX16_look_146 : decode cX16_look 146 = .ok (.i2l, 1) := by decide +kernel
theorem dX16_look_147 : decode cX16_look 147 = .ok (.ldc2_w 872, 3) := by decide +kernel
theorem dX16_look_150 : decode cX16_look 150 = .ok (.land, 1) := by decide +kernel
theorem dX16_look_151 : decode cX16_look 151 = .ok (.lreturn, 1) := by decide +kernel
theorem dX16_look_152 : decode cX16_look 152 = .ok (.aload_n 3, 1) := by decide +kernel
theorem dX16_look_153 : decode cX16_look 153 = .ok (.getfield 434, 3) := by decide +kernel
theorem dX16_look_156 : decode cX16_look 156 = .ok (.i2l, 1) := by decide +kernel
theorem dX16_look_157 : decode cX16_look 157 = .ok (.lreturn, 1) := by decide +kernel
theorem dX16_look_158 : decode cX16_look 158 = .ok (.aload_n 3, 1) := by decide +kernel
theorem dX16_look_159 : decode cX16_look 159 = .ok (.getfield 431, 3) := by decide +kernel
theorem dX16_look_162 : decode cX16_look 162 = .ok (.i2l, 1) := by decide +kernel
theorem dX16_look_163 : decode cX16_look 163 = .ok (.lreturn, 1) := by decide +kernel
theorem dX16_look_164 : decode cX16_look 164 = .ok (.aload_n 3, 1) := by decide +kernel
theorem dX16_look_165 : decode cX16_look 165 = .ok (.getfield 457, 3) := by decide +kernel
theorem dX16_look_168 : decode cX16_look 168 = .ok (.i2l, 1) := by decide +kernel
theorem dX16_look_169 : decode cX16_look 169 = .ok (.lreturn, 1) := by decide +kernel
theorem dX16_look_170 : decode cX16_look 170 = .ok (.aload_n 3, 1) := by decide +kernel
theorem dX16_look_171 : decode cX16_look 171 = .ok (.getfield 382, 3) := by decide +kernel
theorem dX16_look_174 : decode cX16_look 174 = .ok (.i2l, 1) := by decide +kernel
theorem dX16_look_175 : decode cX16_look 175 = .ok (.lreturn, 1) := by decide +kernel
theorem dX16_look_176 : decode cX16_look 176 = .ok (.aload_n 3, 1) := by decide +kernel
theorem dX16_look_177 : decode cX16_look 177 = .ok (.getfield 405, 3) := by decide +kernel
theorem dX16_look_180 : decode cX16_look 180 = .ok (.i2l, 1) := by decide +kernel
theorem dX16_look_181 : decode cX16_look 181 = .ok (.lreturn, 1) := by decide +kernel
theorem dX16_look_182 : decode cX16_look 182 = .ok (.aload_n 3, 1) := by decide +kernel
theorem dX16_look_183 : decode cX16_look 183 = .ok (.invokevirtual 612, 3) := by decide +kernel
theorem dX16_look_186 : decode cX16_look 186 = .ok (.i2l, 1) := by decide +kernel
theorem dX16_look_187 : decode cX16_look 187 = .ok (.lreturn, 1) := by decide +kernel
theorem dX16_look_188 : decode cX16_look 188 = .ok (.aload_n 3, 1) := by decide +kernel
theorem dX16_look_189 : decode cX16_look 189 = .ok (.getfield 152, 3) := by decide +kernel
theorem dX16_look_192 : decode cX16_look 192 = .ok (.iconst 1, 1) := by decide +kernel
theorem dX16_look_193 : decode cX16_look 193 = .ok (.if_icmp .ne 7, 3) := by decide +kernel
theorem dX16_look_196 : decode cX16_look 196 = .ok (.lconst 0, 1) := by decide +kernel
theorem dX16_look_197 : decode cX16_look 197 = .ok (.goto 12, 3) := by decide +kernel
theorem dX16_look_200 : decode cX16_look 200 = .ok (.aload_n 3, 1) := by decide +kernel
theorem dX16_look_201 : decode cX16_look 201 = .ok (.aload_n 3, 1) := by decide +kernel
theorem dX16_look_202 : decode cX16_look 202 = .ok (.getfield 345, 3) := by decide +kernel
theorem dX16_look_205 : decode cX16_look 205 = .ok (.invokevirtual 425, 3) := by decide +kernel
theorem dX16_look_208 : decode cX16_look 208 = .ok (.i2l, 1) := by decide +kernel
theorem dX16_look_209 : decode cX16_look 209 = .ok (.lreturn, 1) := by decide +kernel
theorem dX16_look_210 : decode cX16_look 210 = .ok (.aload_n 3, 1) := by decide +kernel
theorem dX16_look_211 : decode cX16_look 211 = .ok (.getfield 466, 3) := by decide +kernel
theorem dX16_look_214 : decode cX16_look 214 = .ok (.i2l, 1) := by decide +kernel
theorem dX16_look_215 : decode cX16_look 215 = .ok (.lreturn, 1) := by decide +kernel
theorem dX16_look_216 : decode cX16_look 216 = .ok (.aload_n 3, 1) := by decide +kernel
theorem dX16_look_217 : decode cX16_look 217 = .ok (.getfield 469, 3) := by decide +kernel
theorem dX16_look_220 : decode cX16_look 220 = .ok (.i2l, 1) := by decide +kernel
theorem dX16_look_221 : decode cX16_look 221 = .ok (.lreturn, 1) := by decide +kernel
theorem dX16_look_222 : decode cX16_look 222 = .ok (.ldc2_w 870, 3) := by decide +kernel
theorem dX16_look_225 : decode cX16_look 225 = .ok (.lreturn, 1) := by decide +kernel
theorem wX16_look {x : GX} {n0 sl0 : Nat} (X : Cx x cX16_look RX16 (some .long) n0 sl0 2 41) {out : Int64 × Mm} (hE : Ends x n0 sl0 (some (pL out.1)) out.2) (hn : xn x = 4) (fu : Nat)   (a0 : Nat) (a1 : Int32) (a2 : Int32)  (M : Mm) (h : fX16_look fu  a0 a1 a2 M = some out) : Gw x M 0 [(0, pR (some a0)), (1, pI a1), (2, pI a2)] [] := by
  unfold fX16_look at h
  refine g_aload_n X (pc := 0) 0 rfl rfl dX16_look_0 ?_
  refine g_iload_n X (pc := 1) 1 rfl rfl dX16_look_1 ?_
  obtain ⟨q1, eq1, h⟩ := bd h
  obtain ⟨v3, M2, eM2, h⟩ := b2d h
  refine g_callV X (pc := 2) (M' := M2) (ro := some (pI v3)) (c := 16) rfl (by decide) (as := [pI a1]) (as' := [pI a1]) (st := []) eq1 (ctX16_state _ _ _ _ _ _ fu q1 a1 M _ eM2) tb_2519 tb_2524 tb_2517 tb_2518 tb_8 ⟨rfl, hyX16_state⟩ rfl rfl ⟨by decide, by decide⟩ (Nat.le_of_ble_eq_true rfl) dX16_look_2 ?_
  refine g_if_gt X (pc := 5) (tgt := 12) dX16_look_5 (by decide) (fun hc => ?_) (fun hc => ?_)
  · have h := (if_pos hc).symm.trans h
    refine g_aload_n X (pc := 12) 0 rfl rfl dX16_look_12 ?_
    obtain ⟨v4, ev4, h⟩ := bd h
    refine g_getR X (pc := 13) fk_16_31 rfl rfl ev4 tb_1845 dX16_look_13 ?_
    refine g_iload_n X (pc := 16) 1 rfl rfl dX16_look_16 ?_
    obtain ⟨v5, ev5, h⟩ := bd h
    refine g_aaload X (pc := 17) (k := 9) rfl rfl (by decide) ev5 dX16_look_17 ?_
    refine g_astore_n X (pc := 18) [(3, pR v5), (0, pR (some a0)), (1, pI a1), (2, pI a2)] rfl (lt_n hn (by decide)) rfl dX16_look_18 ?_
    refine g_iload_n X (pc := 19) 3 rfl rfl dX16_look_19 ?_
    by_cases hc0 : a2 = (0 : Int32)
    · have h := (if_pos hc0).symm.trans h
      refine g_tab X (pc := 20) 0 (tgt := 96) hc0 (by decide) (by decide) dX16_look_20 rfl (by decide) ?_
      refine g_aload_n X (pc := 96) 0 rfl rfl dX16_look_96 ?_
      obtain ⟨v6, ev6, h⟩ := bd h
      refine g_getI X (pc := 97) fk_12_1 rfl rfl ev6 tb_1581 dX16_look_97 ?_
      refine g_i2l X (pc := 100) dX16_look_100 ?_
      refine g_ldc2 X (pc := 101) tb_2526 dX16_look_101 ?_
      refine g_land X (pc := 104) dX16_look_104 ?_
      obtain rfl := Option.some.inj h
      exact g_lreturn X hE dX16_look_105
    have h := (if_neg hc0).symm.trans h
    by_cases hc1 : a2 = (1 : Int32)
    · have h := (if_pos hc1).symm.trans h
      refine g_tab X (pc := 20) 1 (tgt := 106) hc1 (by decide) (by decide) dX16_look_20 rfl (by decide) ?_
      refine g_aload_n X (pc := 106) 0 rfl rfl dX16_look_106 ?_
      obtain ⟨v7, ev7, h⟩ := bd h
      refine g_getI X (pc := 107) fk_12_2 rfl rfl ev7 tb_1582 dX16_look_107 ?_
      refine g_i2l X (pc := 110) dX16_look_110 ?_
      obtain rfl := Option.some.inj h
      exact g_lreturn X hE dX16_look_111
    have h := (if_neg hc1).symm.trans h
    by_cases hc2 : a2 = (2 : Int32)
    · have h := (if_pos hc2).symm.trans h
      refine g_tab X (pc := 20) 2 (tgt := 112) hc2 (by decide) (by decide) dX16_look_20 rfl (by decide) ?_
      refine g_aload_n X (pc := 112) 0 rfl rfl dX16_look_112 ?_
      obtain ⟨v8, ev8, h⟩ := bd h
      refine g_getI X (pc := 113) fk_12_4 rfl rfl ev8 tb_1584 dX16_look_113 ?_
      refine g_i2l X (pc := 116) dX16_look_116 ?_
      refine g_ldc2 X (pc := 117) tb_2526 dX16_look_117 ?_
      refine g_land X (pc := 120) dX16_look_120 ?_
      obtain rfl := Option.some.inj h
      exact g_lreturn X hE dX16_look_121
    have h := (if_neg hc2).symm.trans h
    by_cases hc3 : a2 = (3 : Int32)
    · have h := (if_pos hc3).symm.trans h
      refine g_tab X (pc := 20) 3 (tgt := 122) hc3 (by decide) (by decide) dX16_look_20 rfl (by decide) ?_
      refine g_aload_n X (pc := 122) 0 rfl rfl dX16_look_122 ?_
      obtain ⟨v9, ev9, h⟩ := bd h
      refine g_getI X (pc := 123) fk_12_5 rfl rfl ev9 tb_1585 dX16_look_123 ?_
      refine g_i2l X (pc := 126) dX16_look_126 ?_
      refine g_ldc2 X (pc := 127) tb_2526 dX16_look_127 ?_
      refine g_land X (pc := 130) dX16_look_130 ?_
      obtain rfl := Option.some.inj h
      exact g_lreturn X hE dX16_look_131
    have h := (if_neg hc3).symm.trans h
    by_cases hc4 : a2 = (4 : Int32)
    · have h := (if_pos hc4).symm.trans h
      refine g_tab X (pc := 20) 4 (tgt := 132) hc4 (by decide) (by decide) dX16_look_20 rfl (by decide) ?_
      refine g_aload_n X (pc := 132) 0 rfl rfl dX16_look_132 ?_
      obtain ⟨v10, ev10, h⟩ := bd h
      refine g_getI X (pc := 133) fk_12_6 rfl rfl ev10 tb_1586 dX16_look_133 ?_
      refine g_i2l X (pc := 136) dX16_look_136 ?_
      refine g_ldc2 X (pc := 137) tb_2526 dX16_look_137 ?_
      refine g_land X (pc := 140) dX16_look_140 ?_
      obtain rfl := Option.some.inj h
      exact g_lreturn X hE dX16_look_141
    have h := (if_neg hc4).symm.trans h
    by_cases hc5 : a2 = (5 : Int32)
    · have h := (if_pos hc5).symm.trans h
      refine g_tab X (pc := 20) 5 (tgt := 142) hc5 (by decide) (by decide) dX16_look_20 rfl (by decide) ?_
      refine g_aload_n X (pc := 142) 0 rfl rfl dX16_look_142 ?_
      obtain ⟨v11, ev11, h⟩ := bd h
      refine g_getI X (pc := 143) fk_12_36 rfl rfl ev11 tb_1625 dX16_look_143 ?_
      refine g_i2l X (pc := 146) dX16_look_146 ?_
      refine g_ldc2 X (pc := 147) tb_2526 dX16_look_147 ?_
      refine g_land X (pc := 150) dX16_look_150 ?_
      obtain rfl := Option.some.inj h
      exact g_lreturn X hE dX16_look_151
    have h := (if_neg hc5).symm.trans h
    by_cases hc6 : a2 = (6 : Int32)
    · have h := (if_pos hc6).symm.trans h
      refine g_tab X (pc := 20) 6 (tgt := 152) hc6 (by decide) (by decide) dX16_look_20 rfl (by decide) ?_
      refine g_aload_n X (pc := 152) 0 rfl rfl dX16_look_152 ?_
      obtain ⟨v12, ev12, h⟩ := bd h
      refine g_getI X (pc := 153) fk_12_7 rfl rfl ev12 tb_1587 dX16_look_153 ?_
      refine g_i2l X (pc := 156) dX16_look_156 ?_
      obtain rfl := Option.some.inj h
      exact g_lreturn X hE dX16_look_157
    have h := (if_neg hc6).symm.trans h
    by_cases hc7 : a2 = (7 : Int32)
    · have h := (if_pos hc7).symm.trans h
      refine g_tab X (pc := 20) 7 (tgt := 158) hc7 (by decide) (by decide) dX16_look_20 rfl (by decide) ?_
      refine g_aload_n X (pc := 158) 0 rfl rfl dX16_look_158 ?_
      obtain ⟨v13, ev13, h⟩ := bd h
      refine g_getI X (pc := 159) fk_12_11 rfl rfl ev13 tb_1591 dX16_look_159 ?_
      refine g_i2l X (pc := 162) dX16_look_162 ?_
      obtain rfl := Option.some.inj h
      exact g_lreturn X hE dX16_look_163
    have h := (if_neg hc7).symm.trans h
    by_cases hc8 : a2 = (8 : Int32)
    · have h := (if_pos hc8).symm.trans h
      refine g_tab X (pc := 20) 8 (tgt := 164) hc8 (by decide) (by decide) dX16_look_20 rfl (by decide) ?_
      refine g_aload_n X (pc := 164) 0 rfl rfl dX16_look_164 ?_
      obtain ⟨v14, ev14, h⟩ := bd h
      refine g_getI X (pc := 165) fk_12_12 rfl rfl ev14 tb_1592 dX16_look_165 ?_
      refine g_i2l X (pc := 168) dX16_look_168 ?_
      obtain rfl := Option.some.inj h
      exact g_lreturn X hE dX16_look_169
    have h := (if_neg hc8).symm.trans h
    by_cases hc9 : a2 = (9 : Int32)
    · have h := (if_pos hc9).symm.trans h
      refine g_tab X (pc := 20) 9 (tgt := 170) hc9 (by decide) (by decide) dX16_look_20 rfl (by decide) ?_
      refine g_aload_n X (pc := 170) 0 rfl rfl dX16_look_170 ?_
      obtain ⟨v15, ev15, h⟩ := bd h
      refine g_getI X (pc := 171) fk_12_13 rfl rfl ev15 tb_1593 dX16_look_171 ?_
      refine g_i2l X (pc := 174) dX16_look_174 ?_
      obtain rfl := Option.some.inj h
      exact g_lreturn X hE dX16_look_175
    have h := (if_neg hc9).symm.trans h
    by_cases hc10 : a2 = (10 : Int32)
    · have h := (if_pos hc10).symm.trans h
      refine g_tab X (pc := 20) 10 (tgt := 176) hc10 (by decide) (by decide) dX16_look_20 rfl (by decide) ?_
      refine g_aload_n X (pc := 176) 0 rfl rfl dX16_look_176 ?_
      obtain ⟨v16, ev16, h⟩ := bd h
      refine g_getI X (pc := 177) fk_12_10 rfl rfl ev16 tb_1590 dX16_look_177 ?_
      refine g_i2l X (pc := 180) dX16_look_180 ?_
      obtain rfl := Option.some.inj h
      exact g_lreturn X hE dX16_look_181
    have h := (if_neg hc10).symm.trans h
    by_cases hc11 : a2 = (11 : Int32)
    · have h := (if_pos hc11).symm.trans h
      refine g_tab X (pc := 20) 11 (tgt := 182) hc11 (by decide) (by decide) dX16_look_20 rfl (by decide) ?_
      refine g_aload_n X (pc := 182) 0 rfl rfl dX16_look_182 ?_
      obtain ⟨q17, eq17, h⟩ := bd h
      obtain ⟨v19, M18, eM18, h⟩ := b2d h
      refine g_callV X (pc := 183) (M' := M18) (ro := some (pI v19)) (c := 12) rfl (by decide) (as := []) (as' := []) (st := []) eq17 (ctX12_held _ _ _ _ _ _ fu q17  M2 _ eM18) tb_2112 tb_2317 tb_2110 tb_2111 tb_9 ⟨rfl, hyX12_held⟩ rfl rfl ⟨by decide, by decide⟩ (Nat.le_of_ble_eq_true rfl) dX16_look_183 ?_
      refine g_i2l X (pc := 186) dX16_look_186 ?_
      obtain rfl := Option.some.inj h
      exact g_lreturn X hE dX16_look_187
    have h := (if_neg hc11).symm.trans h
    by_cases hc12 : a2 = (12 : Int32)
    · have h := (if_pos hc12).symm.trans h
      refine g_tab X (pc := 20) 12 (tgt := 188) hc12 (by decide) (by decide) dX16_look_20 rfl (by decide) ?_
      refine g_aload_n X (pc := 188) 0 rfl rfl dX16_look_188 ?_
      obtain ⟨v20, ev20, h⟩ := bd h
      refine g_getI X (pc := 189) fk_12_0 rfl rfl ev20 tb_1580 dX16_look_189 ?_
      refine g_iconst X (pc := 192) (v := 1) dX16_look_192 (by decide) ?_
      refine g_icmp_ne X (pc := 193) (tgt := 200) dX16_look_193 (by decide) (fun hc => ?_) (fun hc => ?_)
      · have h := (if_neg hc).symm.trans h
        refine g_aload_n X (pc := 200) 0 rfl rfl dX16_look_200 ?_
        refine g_aload_n X (pc := 201) 0 rfl rfl dX16_look_201 ?_
        obtain ⟨v21, ev21, h⟩ := bd h
        refine g_getI X (pc := 202) fk_12_5 rfl rfl ev21 tb_1585 dX16_look_202 ?_
        obtain ⟨q22, eq22, h⟩ := bd h
        obtain ⟨v24, M23, eM23, h⟩ := b2d h
        refine g_callV X (pc := 205) (M' := M23) (ro := some (pI v24)) (c := 12) rfl (by decide) (as := [pI v21]) (as' := [pI v21]) (st := []) eq22 (ctX12_left _ _ _ _ _ _ fu q22 v21 M2 _ eM23) tb_2070 tb_2067 tb_2068 tb_2069 tb_9 ⟨rfl, hyX12_left⟩ rfl rfl ⟨by decide, by decide⟩ (Nat.le_of_ble_eq_true rfl) dX16_look_205 ?_
        refine g_i2l X (pc := 208) dX16_look_208 ?_
        obtain rfl := Option.some.inj h
        exact g_lreturn X hE dX16_look_209
      · have h := (if_pos hc).symm.trans h
        refine g_lconst X (pc := 196) (v := 0) dX16_look_196 (by decide) ?_
        refine g_goto X (pc := 197) (tgt := 209) dX16_look_197 (by decide) ?_
        obtain rfl := Option.some.inj h
        exact g_lreturn X hE dX16_look_209
    have h := (if_neg hc12).symm.trans h
    by_cases hc13 : a2 = (13 : Int32)
    · have h := (if_pos hc13).symm.trans h
      refine g_tab X (pc := 20) 13 (tgt := 210) hc13 (by decide) (by decide) dX16_look_20 rfl (by decide) ?_
      refine g_aload_n X (pc := 210) 0 rfl rfl dX16_look_210 ?_
      obtain ⟨v25, ev25, h⟩ := bd h
      refine g_getI X (pc := 211) fk_12_23 rfl rfl ev25 tb_1603 dX16_look_211 ?_
      refine g_i2l X (pc := 214) dX16_look_214 ?_
      obtain rfl := Option.some.inj h
      exact g_lreturn X hE dX16_look_215
    have h := (if_neg hc13).symm.trans h
    by_cases hc14 : a2 = (14 : Int32)
    · have h := (if_pos hc14).symm.trans h
      refine g_tab X (pc := 20) 14 (tgt := 216) hc14 (by decide) (by decide) dX16_look_20 rfl (by decide) ?_
      refine g_aload_n X (pc := 216) 0 rfl rfl dX16_look_216 ?_
      obtain ⟨v26, ev26, h⟩ := bd h
      refine g_getI X (pc := 217) fk_12_24 rfl rfl ev26 tb_1604 dX16_look_217 ?_
      refine g_i2l X (pc := 220) dX16_look_220 ?_
      obtain rfl := Option.some.inj h
      exact g_lreturn X hE dX16_look_221
    have h := (if_neg hc14).symm.trans h
    refine g_tabD X (pc := 20) 15 (tgt := 222) (by decide) ⟨⟨⟨⟨⟨⟨⟨⟨⟨⟨⟨⟨⟨⟨⟨trivial, hc0⟩, hc1⟩, hc2⟩, hc3⟩, hc4⟩, hc5⟩, hc6⟩, hc7⟩, hc8⟩, hc9⟩, hc10⟩, hc11⟩, hc12⟩, hc13⟩, hc14⟩ dX16_look_20 (by decide) ?_
    refine g_ldc2 X (pc := 222) tb_2525 dX16_look_222 ?_
    obtain rfl := Option.some.inj h
    exact g_lreturn X hE dX16_look_225
  · have h := (if_neg hc).symm.trans h
    refine g_ldc2 X (pc := 8) tb_2525 dX16_look_8 ?_
    obtain rfl := Option.some.inj h
    exact g_lreturn X hE dX16_look_11
theorem hyX16_look : yX16_look.cls ≠ "java/lang/invoke/MethodHandle" ∧ yX16_look.cls ≠ "java/lang/invoke/VarHandle" ∧ (parseMethodDescriptor yX16_look.desc).map (fun d => d.parameters.length) = some 2 := ⟨by decide +kernel, by decide +kernel, by decide +kernel⟩
theorem ctX16_look (l : Launch) (E : Nat → Nat) (D : va_G) (dA : Nat → ClassId) (lo : Nat) (H0 : Heap) (fu : Nat) (a0 : Nat) (a1 : Int32) (a2 : Int32) (M : Mm) (out : Int64 × Mm) (h : fX16_look fu a0 a1 a2 M = some out) : Ct l E D dA lo H0 yX16_look cX16_look 4 (some .long) 2 41 [pR (some a0), pI a1, pI a2] M (some (pL out.1)) out.2 := by
  refine ct_of (by decide +kernel) (Nat.le_of_ble_eq_true rfl) ?_
  intro x hl he hd ha ho hh hn hin X hE
  exact wX16_look X hE hn fu a0 a1 a2 M h
/-! WebHostModel.cached(I)Z -/
def fX16_cached (fu : Nat)  (a0 : Nat) (a1 : Int32)  (M : Mm) : Option (Int32 × Mm) :=
    (gI M 16 1028 (some a0)).bind fun v1 =>
    if v1 = 0 then (
    rN .boolean (0 : Int32) M)
    else (
    (rc M 16 (some a0)).bind fun q2 =>
    b2 (fX16_counting fu q2 a1 M) fun v4 M3 =>
    if v4 = none then (
    rN .boolean (0 : Int32) M3)
    else (
    rN .boolean (1 : Int32) M3))
theorem dX16_cached_0 : decode cX16_cached 0 = .ok (.aload_n 0, 1) := by decide +kernel
theorem dX16_cached_1 : decode cX16_cached 1 = .ok (.getfield 95, 3) := by decide +kernel
theorem dX16_cached_4 : decode cX16_cached 4 = .ok (.ifCond .eq 15, 3) := by decide +kernel
theorem dX16_cached_7 : decode cX16_cached 7 = .ok (.aload_n 0, 1) := by decide +kernel
theorem dX16_cached_8 : decode cX16_cached 8 = .ok (.iload_n 1, 1) := by decide +kernel
theorem dX16_cached_9 : decode cX16_cached 9 = .ok (.invokevirtual 227, 3) := by decide +kernel
theorem dX16_cached_12 : decode cX16_cached 12 = .ok (.ifnull 7, 3) := by decide +kernel
theorem dX16_cached_15 : decode cX16_cached 15 = .ok (.iconst 1, 1) := by decide +kernel
theorem dX16_cached_16 : decode cX16_cached 16 = .ok (.goto 4, 3) := by decide +kernel
theorem dX16_cached_19 : decode cX16_cached 19 = .ok (.iconst 0, 1) := by decide +kernel
theorem dX16_cached_20 : decode cX16_cached 20 = .ok (.ireturn, 1) := by decide +kernel
theorem wX16_cached {x : GX} {n0 sl0 : Nat} (X : Cx x cX16_cached RX16 (some .boolean) n0 sl0 2 44) {out : Int32 × Mm} (hE : Ends x n0 sl0 (some (pI out.1)) out.2) (hn : xn x = 2) (fu : Nat)   (a0 : Nat) (a1 : Int32)  (M : Mm) (h : fX16_cached fu  a0 a1 M = some out) : Gw x M 0 [(0, pR (some a0)), (1, pI a1)] [] := by
  unfold fX16_cached at h
  refine g_aload_n X (pc := 0) 0 rfl rfl dX16_cached_0 ?_
  obtain ⟨v1, ev1, h⟩ := bd h
  refine g_getI X (pc := 1) fk_16_4 rfl rfl ev1 tb_1818 dX16_cached_1 ?_
  refine g_if_eq X (pc := 4) (tgt := 19) dX16_cached_4 (by decide) (fun hc => ?_) (fun hc => ?_)
  · have h := (if_pos hc).symm.trans h
    refine g_iconst X (pc := 19) (v := 0) dX16_cached_19 (by decide) ?_
    obtain ⟨hz, rfl⟩ := rN_some h
    exact g_nreturn X rfl hz hE dX16_cached_20
  · have h := (if_neg hc).symm.trans h
    refine g_aload_n X (pc := 7) 0 rfl rfl dX16_cached_7 ?_
    refine g_iload_n X (pc := 8) 1 rfl rfl dX16_cached_8 ?_
    obtain ⟨q2, eq2, h⟩ := bd h
    obtain ⟨v4, M3, eM3, h⟩ := b2d h
    refine g_callV X (pc := 9) (M' := M3) (ro := some (pR v4)) (c := 16) rfl (by decide) (as := [pI a1]) (as' := [pI a1]) (st := []) eq2 (ctX16_counting _ _ _ _ _ _ fu q2 a1 M _ eM3) tb_2141 tb_2138 tb_2140 ts_79 tb_8 ⟨rfl, hyX16_counting⟩ rfl rfl ⟨by decide, by decide⟩ (Nat.le_of_ble_eq_true rfl) dX16_cached_9 ?_
    refine g_ifnull X (pc := 12) (tgt := 19) dX16_cached_12 (by decide) (fun hc => ?_) (fun hc => ?_)
    · have h := (if_pos hc).symm.trans h
      refine g_iconst X (pc := 19) (v := 0) dX16_cached_19 (by decide) ?_
      obtain ⟨hz, rfl⟩ := rN_some h
      exact g_nreturn X rfl hz hE dX16_cached_20
    · have h := (if_neg hc).symm.trans h
      refine g_iconst X (pc := 15) (v := 1) dX16_cached_15 (by decide) ?_
      refine g_goto X (pc := 16) (tgt := 20) dX16_cached_16 (by decide) ?_
      obtain ⟨hz, rfl⟩ := rN_some h
      exact g_nreturn X rfl hz hE dX16_cached_20
theorem hyX16_cached : yX16_cached.cls ≠ "java/lang/invoke/MethodHandle" ∧ yX16_cached.cls ≠ "java/lang/invoke/VarHandle" ∧ (parseMethodDescriptor yX16_cached.desc).map (fun d => d.parameters.length) = some 1 := ⟨by decide +kernel, by decide +kernel, by decide +kernel⟩
theorem ctX16_cached (l : Launch) (E : Nat → Nat) (D : va_G) (dA : Nat → ClassId) (lo : Nat) (H0 : Heap) (fu : Nat) (a0 : Nat) (a1 : Int32) (M : Mm) (out : Int32 × Mm) (h : fX16_cached fu a0 a1 M = some out) : Ct l E D dA lo H0 yX16_cached cX16_cached 2 (some .boolean) 2 44 [pR (some a0), pI a1] M (some (pI out.1)) out.2 := by
  refine ct_of (by decide +kernel) (Nat.le_of_ble_eq_true rfl) ?_
  intro x hl he hd ha ho hh hn hin X hE
  exact wX16_cached X hE hn fu a0 a1 M h
/-! WebHostModel.waiting()I -/
def fX16_waiting_L32 (fu : Nat) (k4 : Nat → Int32 → Int32 → Mm → Option (Int32 × Mm)) (a0 : Nat) (a1 : Int32) (a2 : Int32)  (M : Mm) : Option (Int32 × Mm) :=
    k4 a0 a1 (a2 + (1 : Int32)) M
def fX16_waiting_L4 (fu : Nat)  : Nat → Nat → Int32 → Int32 → Mm → Option (Int32 × Mm)
  | 0, _, _, _, _ => none
  | n + 1, a0, a1, a2, M =>
    if (8 : Int32) ≤ a2 then (
    some (a1, M))
    else (
    (gI M 16 1028 (some a0)).bind fun v1 =>
    if v1 = 0 then (
    some (a1, M))
    else (
    (gR M 16 1051 (some a0)).bind fun v2 =>
    (gB M 125 v2 a2).bind fun v3 =>
    (gI M 15 960 v3).bind fun v4 =>
    if v4 = 0 then (
    fX16_waiting_L32 fu (fun b0 b1 b2 M => fX16_waiting_L4 fu  n b0 b1 b2 M) a0 a1 a2 M)
    else (
    fX16_waiting_L32 fu (fun b0 b1 b2 M => fX16_waiting_L4 fu  n b0 b1 b2 M) a0 (a1 + (1 : Int32)) a2 M)))
def fX16_waiting (fu : Nat)  (a0 : Nat)  (M : Mm) : Option (Int32 × Mm) :=
    fX16_waiting_L4 fu  fu a0 (0 : Int32) (0 : Int32) M
theorem dX16_waiting_0 : decode cX16_waiting 0 = .ok (.iconst 0, 1) := by decide +kernel
theorem dX16_waiting_1 : decode cX16_waiting 1 = .ok (.istore_n 1, 1) := by decide +kernel
theorem dX16_waiting_2 : decode cX16_waiting 2 = .ok (.iconst 0, 1) := by decide +kernel
theorem dX16_waiting_3 : decode cX16_waiting 3 = .ok (.istore_n 2, 1) := by decide +kernel
theorem dX16_waiting_4 : decode cX16_waiting 4 = .ok (.iload_n 2, 1) := by decide +kernel
theorem dX16_waiting_5 : decode cX16_waiting 5 = .ok (.bipush 8, 2) := by decide +kernel
theorem dX16_waiting_7 : decode cX16_waiting 7 = .ok (.if_icmp .ge 31, 3) := by decide +kernel
theorem dX16_waiting_10 : decode cX16_waiting 10 = .ok (.aload_n 0, 1) := by decide +kernel
theorem dX16_waiting_11 : decode cX16_waiting 11 = .ok (.getfield 95, 3) := by decide +kernel
theorem dX16_waiting_14 : decode cX16_waiting 14 = .ok (.ifCond .eq 24, 3) := by decide +kernel
theorem dX16_waiting_17 : decode cX16_waiting 17 = .ok (.aload_n 0, 1) := by decide +kernel
theorem dX16_waiting_18 : decode cX16_waiting 18 = .ok (.getfield 55, 3) := by decide +kernel
theorem dX16_waiting_21 : decode cX16_waiting 21 = .ok (.iload_n 2, 1) := by decide +kernel
theorem dX16_waiting_22 : decode cX16_waiting 22 = .ok (.aaload, 1) := by decide +kernel
theorem dX16_waiting_23 : decode cX16_waiting 23 = .ok (.getfield 158, 3) := by decide +kernel
theorem dX16_waiting_26 : decode cX16_waiting 26 = .ok (.ifCond .eq 6, 3) := by decide +kernel
theorem dX16_waiting_29 : decode cX16_waiting 29 = .ok (.iinc 1 1, 3) := by decide +kernel
theorem dX16_waiting_32 : decode cX16_waiting 32 = .ok (.iinc 2 1, 3) := by decide +kernel
theorem dX16_waiting_35 : decode cX16_waiting 35 = .ok (.goto (-31), 3) := by decide +kernel
theorem dX16_waiting_38 : decode cX16_waiting 38 = .ok (.iload_n 1, 1) := by decide +kernel
theorem dX16_waiting_39 : decode cX16_waiting 39 = .ok (.ireturn, 1) := by decide +kernel
theorem wX16_waiting_L32 {x : GX} {n0 sl0 : Nat} (X : Cx x cX16_waiting RX16 (some .int) n0 sl0 0 0) {out : Int32 × Mm} (hE : Ends x n0 sl0 (some (pI out.1)) out.2) (hn : xn x = 3) (fu : Nat) (k4 : Nat → Int32 → Int32 → Mm → Option (Int32 × Mm)) (hk4 : ∀ (b0 : Nat) (b1 : Int32) (b2 : Int32)  (M : Mm), k4 b0 b1 b2 M = some out → Gw x M 4 [(0, pR (some b0)), (1, pI b1), (2, pI b2)] []) (a0 : Nat) (a1 : Int32) (a2 : Int32)  (M : Mm) (h : fX16_waiting_L32 fu k4 a0 a1 a2 M = some out) : Gw x M 32 [(0, pR (some a0)), (1, pI a1), (2, pI a2)] [] := by
  unfold fX16_waiting_L32 at h
  refine g_iinc X (pc := 32) 2 [(2, pI (a2 + (1 : Int32))), (0, pR (some a0)), (1, pI a1)] rfl (iinc_e (by decide)) (lt_n hn (by decide)) rfl dX16_waiting_32 ?_
  refine g_goto X (pc := 35) (tgt := 4) dX16_waiting_35 (by decide) ?_
  refine g_sub [1, 2, 0] [(0, pR (some a0)), (1, pI a1), (2, pI (a2 + (1 : Int32)))] rfl ?_
  exact hk4 a0 a1 (a2 + (1 : Int32)) M h
theorem wX16_waiting_L4 {x : GX} {n0 sl0 : Nat} (X : Cx x cX16_waiting RX16 (some .int) n0 sl0 0 0) {out : Int32 × Mm} (hE : Ends x n0 sl0 (some (pI out.1)) out.2) (hn : xn x = 3) (fu : Nat)   : ∀ (n : Nat) (a0 : Nat) (a1 : Int32) (a2 : Int32)  (M : Mm), fX16_waiting_L4 fu  n a0 a1 a2 M = some out → Gw x M 4 [(0, pR (some a0)), (1, pI a1), (2, pI a2)] [] := by
  intro n
  induction n with
  | zero =>
    intro a0 a1 a2 M h
    have h : (none : Option (Int32 × Mm)) = some out := h
    cases h
  | succ n ih =>
    intro a0 a1 a2 M h
    rw [fX16_waiting_L4] at h
    refine g_iload_n X (pc := 4) 2 rfl rfl dX16_waiting_4 ?_
    refine g_bipush X (pc := 5) (v := 8) dX16_waiting_5 (by decide) ?_
    refine g_icmp_ge X (pc := 7) (tgt := 38) dX16_waiting_7 (by decide) (fun hc => ?_) (fun hc => ?_)
    · have h := (if_pos hc).symm.trans h
      refine g_iload_n X (pc := 38) 1 rfl rfl dX16_waiting_38 ?_
      obtain rfl := Option.some.inj h
      exact g_ireturn X hE dX16_waiting_39
    · have h := (if_neg hc).symm.trans h
      refine g_aload_n X (pc := 10) 0 rfl rfl dX16_waiting_10 ?_
      obtain ⟨v1, ev1, h⟩ := bd h
      refine g_getI X (pc := 11) fk_16_4 rfl rfl ev1 tb_1818 dX16_waiting_11 ?_
      refine g_if_eq X (pc := 14) (tgt := 38) dX16_waiting_14 (by decide) (fun hc => ?_) (fun hc => ?_)
      · have h := (if_pos hc).symm.trans h
        refine g_iload_n X (pc := 38) 1 rfl rfl dX16_waiting_38 ?_
        obtain rfl := Option.some.inj h
        exact g_ireturn X hE dX16_waiting_39
      · have h := (if_neg hc).symm.trans h
        refine g_aload_n X (pc := 17) 0 rfl rfl dX16_waiting_17 ?_
        obtain ⟨v2, ev2, h⟩ := bd h
        refine g_getR X (pc := 18) fk_16_27 rfl rfl ev2 tb_1841 dX16_waiting_18 ?_
        refine g_iload_n X (pc := 21) 2 rfl rfl dX16_waiting_21 ?_
        obtain ⟨v3, ev3, h⟩ := bd h
        refine g_aaload X (pc := 22) (k := 7) rfl rfl (by decide) ev3 dX16_waiting_22 ?_
        obtain ⟨v4, ev4, h⟩ := bd h
        refine g_getI X (pc := 23) fk_15_0 rfl rfl ev4 tb_1756 dX16_waiting_23 ?_
        refine g_if_eq X (pc := 26) (tgt := 32) dX16_waiting_26 (by decide) (fun hc => ?_) (fun hc => ?_)
        · have h := (if_pos hc).symm.trans h
          exact wX16_waiting_L32 X hE hn fu (fun b0 b1 b2 M => fX16_waiting_L4 fu  n b0 b1 b2 M) ih a0 a1 a2 M h
        · have h := (if_neg hc).symm.trans h
          refine g_iinc X (pc := 29) 1 [(1, pI (a1 + (1 : Int32))), (0, pR (some a0)), (2, pI a2)] rfl (iinc_e (by decide)) (lt_n hn (by decide)) rfl dX16_waiting_29 ?_
          refine g_sub [1, 0, 2] [(0, pR (some a0)), (1, pI (a1 + (1 : Int32))), (2, pI a2)] rfl ?_
          exact wX16_waiting_L32 X hE hn fu (fun b0 b1 b2 M => fX16_waiting_L4 fu  n b0 b1 b2 M) ih a0 (a1 + (1 : Int32)) a2 M h
theorem wX16_waiting {x : GX} {n0 sl0 : Nat} (X : Cx x cX16_waiting RX16 (some .int) n0 sl0 0 0) {out : Int32 × Mm} (hE : Ends x n0 sl0 (some (pI out.1)) out.2) (hn : xn x = 3) (fu : Nat)   (a0 : Nat)  (M : Mm) (h : fX16_waiting fu  a0 M = some out) : Gw x M 0 [(0, pR (some a0))] [] := by
  unfold fX16_waiting at h
  refine g_iconst X (pc := 0) (v := 0) dX16_waiting_0 (by decide) ?_
  refine g_istore_n X (pc := 1) [(1, pI (0 : Int32)), (0, pR (some a0))] rfl (lt_n hn (by decide)) rfl dX16_waiting_1 ?_
  refine g_iconst X (pc := 2) (v := 0) dX16_waiting_2 (by decide) ?_
  refine g_istore_n X (pc := 3) [(2, pI (0 : Int32)), (1, pI (0 : Int32)), (0, pR (some a0))] rfl (lt_n hn (by decide)) rfl dX16_waiting_3 ?_
  refine g_sub [2, 1, 0] [(0, pR (some a0)), (1, pI (0 : Int32)), (2, pI (0 : Int32))] rfl ?_
  exact wX16_waiting_L4 X hE hn fu   fu a0 (0 : Int32) (0 : Int32) M h
theorem hyX16_waiting : yX16_waiting.cls ≠ "java/lang/invoke/MethodHandle" ∧ yX16_waiting.cls ≠ "java/lang/invoke/VarHandle" ∧ (parseMethodDescriptor yX16_waiting.desc).map (fun d => d.parameters.length) = some 0 := ⟨by decide +kernel, by decide +kernel, by decide +kernel⟩
theorem ctX16_waiting (l : Launch) (E : Nat → Nat) (D : va_G) (dA : Nat → ClassId) (lo : Nat) (H0 : Heap) (fu : Nat) (a0 : Nat) (M : Mm) (out : Int32 × Mm) (h : fX16_waiting fu a0 M = some out) : Ct l E D dA lo H0 yX16_waiting cX16_waiting 3 (some .int) 0 0 [pR (some a0)] M (some (pI out.1)) out.2 := by
  refine ct_of (by decide +kernel) (Nat.le_of_ble_eq_true rfl) ?_
  intro x hl he hd ha ho hh hn hin X hE
  exact wX16_waiting X hE hn fu a0 M h
/-! WebHostModel.counted(I)I -/
def fX16_counted (fu : Nat)  (a0 : Nat) (a1 : Int32)  (M : Mm) : Option (Int32 × Mm) :=
    (gI M 16 1028 (some a0)).bind fun v1 =>
    if v1 = 0 then (
    some ((-1 : Int32), M))
    else (
    if a1 < 0 then (
    some ((-1 : Int32), M))
    else (
    if (8 : Int32) ≤ a1 then (
    some ((-1 : Int32), M))
    else (
    (gR M 16 1041 (some a0)).bind fun v2 =>
    (gA M 101 v2 a1).bind fun v3 =>
    some (v3, M))))
theorem dX16_counted_0 : decode cX16_counted 0 = .ok (.aload_n 0, 1) := by decide +kernel
theorem dX16_counted_1 : decode cX16_counted 1 = .ok (.getfield 95, 3) := by decide +kernel
theorem dX16_counted_4 : decode cX16_counted 4 = .ok (.ifCond .eq 22, 3) := by decide +kernel
theorem dX16_counted_7 : decode cX16_counted 7 = .ok (.iload_n 1, 1) := by decide +kernel
theorem dX16_counted_8 : decode cX16_counted 8 = .ok (.ifCond .lt 18, 3) := by decide +kernel
theorem dX16_counted_11 : decode cX16_counted 11 = .ok (.iload_n 1, 1) := by decide +kernel
theorem dX16_counted_12 : decode cX16_counted 12 = .ok (.bipush 8, 2) := by decide +kernel
theorem dX16_counted_14 : decode cX16_counted 14 = .ok (.if_icmp .ge 12, 3) := by decide +kernel
theorem dX16_counted_17 : decode cX16_counted 17 = .ok (.aload_n 0, 1) := by decide +kernel
theorem dX16_counted_18 : decode cX16_counted 18 = .ok (.getfield 31, 3) := by decide +kernel
theorem dX16_counted_21 : decode cX16_counted 21 = .ok (.iload_n 1, 1) := by decide +kernel
theorem dX16_counted_22 : decode cX16_counted 22 = .ok (.iaload, 1) := by decide +kernel
theorem dX16_counted_23 : decode cX16_counted 23 = .ok (.goto 4, 3) := by decide +kernel
theorem dX16_counted_26 : decode cX16_counted 26 = .ok (.iconst (-1), 1) := by decide +kernel
theorem dX16_counted_27 : decode cX16_counted 27 = .ok (.ireturn, 1) := by decide +kernel
theorem wX16_counted {x : GX} {n0 sl0 : Nat} (X : Cx x cX16_counted RX16 (some .int) n0 sl0 0 0) {out : Int32 × Mm} (hE : Ends x n0 sl0 (some (pI out.1)) out.2) (hn : xn x = 2) (fu : Nat)   (a0 : Nat) (a1 : Int32)  (M : Mm) (h : fX16_counted fu  a0 a1 M = some out) : Gw x M 0 [(0, pR (some a0)), (1, pI a1)] [] := by
  unfold fX16_counted at h
  refine g_aload_n X (pc := 0) 0 rfl rfl dX16_counted_0 ?_
  obtain ⟨v1, ev1, h⟩ := bd h
  refine g_getI X (pc := 1) fk_16_4 rfl rfl ev1 tb_1818 dX16_counted_1 ?_
  refine g_if_eq X (pc := 4) (tgt := 26) dX16_counted_4 (by decide) (fun hc => ?_) (fun hc => ?_)
  · have h := (if_pos hc).symm.trans h
    refine g_iconst X (pc := 26) (v := (-1)) dX16_counted_26 (by decide) ?_
    obtain rfl := Option.some.inj h
    exact g_ireturn X hE dX16_counted_27
  · have h := (if_neg hc).symm.trans h
    refine g_iload_n X (pc := 7) 1 rfl rfl dX16_counted_7 ?_
    refine g_if_lt X (pc := 8) (tgt := 26) dX16_counted_8 (by decide) (fun hc => ?_) (fun hc => ?_)
    · have h := (if_pos hc).symm.trans h
      refine g_iconst X (pc := 26) (v := (-1)) dX16_counted_26 (by decide) ?_
      obtain rfl := Option.some.inj h
      exact g_ireturn X hE dX16_counted_27
    · have h := (if_neg hc).symm.trans h
      refine g_iload_n X (pc := 11) 1 rfl rfl dX16_counted_11 ?_
      refine g_bipush X (pc := 12) (v := 8) dX16_counted_12 (by decide) ?_
      refine g_icmp_ge X (pc := 14) (tgt := 26) dX16_counted_14 (by decide) (fun hc => ?_) (fun hc => ?_)
      · have h := (if_pos hc).symm.trans h
        refine g_iconst X (pc := 26) (v := (-1)) dX16_counted_26 (by decide) ?_
        obtain rfl := Option.some.inj h
        exact g_ireturn X hE dX16_counted_27
      · have h := (if_neg hc).symm.trans h
        refine g_aload_n X (pc := 17) 0 rfl rfl dX16_counted_17 ?_
        obtain ⟨v2, ev2, h⟩ := bd h
        refine g_getR X (pc := 18) fk_16_17 rfl rfl ev2 tb_1831 dX16_counted_18 ?_
        refine g_iload_n X (pc := 21) 1 rfl rfl dX16_counted_21 ?_
        obtain ⟨v3, ev3, h⟩ := bd h
        refine g_iaload X (pc := 22) ev3 dX16_counted_22 ?_
        refine g_goto X (pc := 23) (tgt := 27) dX16_counted_23 (by decide) ?_
        obtain rfl := Option.some.inj h
        exact g_ireturn X hE dX16_counted_27
theorem hyX16_counted : yX16_counted.cls ≠ "java/lang/invoke/MethodHandle" ∧ yX16_counted.cls ≠ "java/lang/invoke/VarHandle" ∧ (parseMethodDescriptor yX16_counted.desc).map (fun d => d.parameters.length) = some 1 := ⟨by decide +kernel, by decide +kernel, by decide +kernel⟩
theorem ctX16_counted (l : Launch) (E : Nat → Nat) (D : va_G) (dA : Nat → ClassId) (lo : Nat) (H0 : Heap) (fu : Nat) (a0 : Nat) (a1 : Int32) (M : Mm) (out : Int32 × Mm) (h : fX16_counted fu a0 a1 M = some out) : Ct l E D dA lo H0 yX16_counted cX16_counted 2 (some .int) 0 0 [pR (some a0), pI a1] M (some (pI out.1)) out.2 := by
  refine ct_of (by decide +kernel) (Nat.le_of_ble_eq_true rfl) ?_
  intro x hl he hd ha ho hh hn hin X hE
  exact wX16_counted X hE hn fu a0 a1 M h
/-! WebHostModel.damage(II)Z -/
def fX16_damage_L79 (fu : Nat)  (a0 : Nat) (a1 : Int32) (a2 : Int32)  (M : Mm) : Option (Int32 × Mm) :=
    (gR M 16 1026 (some a0)).bind fun v1 =>
    (pA M 100 v1 a1 (Int8.toInt32 (Int32.toInt8 (Int8.toInt32 (Int32.toInt8 a2))))).bind fun M2 =>
    rN .boolean (1 : Int32) M2
def fX16_damage_L73 (fu : Nat) (k16 : Nat → Int32 → Int32 → Int32 → Mm → Option (Int32 × Mm)) (a0 : Nat) (a1 : Int32) (a2 : Int32) (a3 : Int32)  (M : Mm) : Option (Int32 × Mm) :=
    k16 a0 a1 a2 (a3 + (1 : Int32)) M
def fX16_damage_L16 (fu : Nat)  : Nat → Nat → Int32 → Int32 → Int32 → Mm → Option (Int32 × Mm)
  | 0, _, _, _, _, _ => none
  | n + 1, a0, a1, a2, a3, M =>
    if (16 : Int32) ≤ a3 then (
    fX16_damage_L79 fu  a0 a1 a2 M)
    else (
    (gI M 16 1028 (some a0)).bind fun v1 =>
    if v1 = 0 then (
    fX16_damage_L79 fu  a0 a1 a2 M)
    else (
    (gR M 16 1055 (some a0)).bind fun v2 =>
    (gB M 122 v2 a3).bind fun v3 =>
    (gI M 12 768 v3).bind fun v4 =>
    if v4 = 0 then (
    fX16_damage_L73 fu (fun b0 b1 b2 b3 M => fX16_damage_L16 fu  n b0 b1 b2 b3 M) a0 a1 a2 a3 M)
    else (
    (gI M 12 772 v3).bind fun v5 =>
    (gI M 12 774 v3).bind fun v6 =>
    if v5 = v6 then (
    (gI M 12 773 v3).bind fun v7 =>
    (rc M 12 v3).bind fun q8 =>
    b2 (fX12_left fu q8 v7 M) fun v10 M9 =>
    if v10 ≤ 0 then (
    fX16_damage_L73 fu (fun b0 b1 b2 b3 M => fX16_damage_L16 fu  n b0 b1 b2 b3 M) a0 a1 a2 a3 M9)
    else (
    rN .boolean (0 : Int32) M9))
    else (
    rN .boolean (0 : Int32) M))))
def fX16_damage (fu : Nat)  (a0 : Nat) (a1 : Int32) (a2 : Int32)  (M : Mm) : Option (Int32 × Mm) :=
    if a1 < 0 then (
    rN .boolean (0 : Int32) M)
    else (
    (gI M 16 1027 (some a0)).bind fun v1 =>
    if a1 < v1 then (
    fX16_damage_L16 fu  fu a0 a1 a2 (0 : Int32) M)
    else (
    rN .boolean (0 : Int32) M))
theorem dX16_damage_0 : decode cX16_damage 0 = .ok (.iload_n 1, 1) := by decide +kernel
theorem dX16_damage_1 : decode cX16_damage 1 = .ok (.ifCond .lt 11, 3) := by decide +kernel
theorem dX16_damage_4 : decode cX16_damage 4 = .ok (.iload_n 1, 1) := by decide +kernel
theorem dX16_damage_5 : decode cX16_damage 5 = .ok (.aload_n 0, 1) := by decide +kernel
theorem dX16_damage_6 : decode cX16_damage 6 = .ok (.getfield 92, 3) := by decide +kernel
theorem dX16_damage_9 : decode cX16_damage 9 = .ok (.if_icmp .lt 5, 3) := by decide +kernel
theorem dX16_damage_12 : decode cX16_damage 12 = .ok (.iconst 0, 1) := by decide +kernel
theorem dX16_damage_13 : decode cX16_damage 13 = .ok (.ireturn, 1) := by decide +kernel
theorem dX16_damage_14 : decode cX16_damage 14 = .ok (.iconst 0, 1) := by decide +kernel
theorem dX16_damage_15 : decode cX16_damage 15 = .ok (.istore_n 3, 1) := by decide +kernel
theorem dX16_damage_16 : decode cX16_damage 16 = .ok (.iload_n 3, 1) := by decide +kernel
theorem dX16_damage_17 : decode cX16_damage 17 = .ok (.bipush 16, 2) := by decide +kernel
theorem dX16_damage_19 : decode cX16_damage 19 = .ok (.if_icmp .ge 60, 3) := by decide +kernel
theorem dX16_damage_22 : decode cX16_damage 22 = .ok (.aload_n 0, 1) := by decide +kernel
theorem dX16_damage_23 : decode cX16_damage 23 = .ok (.getfield 95, 3) := by decide +kernel
theorem dX16_damage_26 : decode cX16_damage 26 = .ok (.ifCond .eq 53, 3) := by decide +kernel
theorem dX16_damage_29 : decode cX16_damage 29 = .ok (.aload_n 0, 1) := by decide +kernel
theorem dX16_damage_30 : decode cX16_damage 30 = .ok (.getfield 70, 3) := by decide +kernel
theorem dX16_damage_33 : decode cX16_damage 33 = .ok (.iload_n 3, 1) := by decide +kernel
theorem dX16_damage_34 : decode cX16_damage 34 = .ok (.aaload, 1) := by decide +kernel
theorem dX16_damage_35 : decode cX16_damage 35 = .ok (.astore 4, 2) := by decide +kernel
theorem dX16_damage_37 : decode cX16_damage 37 = .ok (.aload 4, 2) := by decide +kernel
theorem dX16_damage_39 : decode cX16_damage 39 = .ok (.getfield 152, 3) := by decide +kernel
theorem dX16_damage_42 : decode cX16_damage 42 = .ok (.ifCond .eq 31, 3) := by decide +kernel
theorem dX16_damage_45 : decode cX16_damage 45 = .ok (.aload 4, 2) := by decide +kernel
theorem dX16_damage_47 : decode cX16_damage 47 = .ok (.getfield 428, 3) := by decide +kernel
theorem dX16_damage_50 : decode cX16_damage 50 = .ok (.aload 4, 2) := by decide +kernel
theorem dX16_damage_52 : decode cX16_damage 52 = .ok (.getfield 361, 3) := by decide +kernel
theorem dX16_damage_55 : decode cX16_damage 55 = .ok (.if_icmp .ne 16, 3) := by decide +kernel
theorem dX16_damage_58 : decode cX16_damage 58 = .ok (.aload 4, 2) := by decide +kernel
theorem dX16_damage_60 : decode cX16_damage 60 = .ok (.aload 4, 2) := by decide +kernel
theorem dX16_damage_62 : decode cX16_damage 62 = .ok (.getfield 345, 3) := by decide +kernel
theorem dX16_damage_65 : decode cX16_damage 65 = .ok (.invokevirtual 425, 3) := by decide +kernel
theorem dX16_damage_68 : decode cX16_damage 68 = .ok (.ifCond .le 5, 3) := by decide +kernel
theorem dX16_damage_71 : decode cX16_damage 71 = .ok (.iconst 0, 1) := by decide +kernel
theorem dX16_damage_72 : decode cX16_damage 72 = .ok (.ireturn, 1) := by decide +kernel
theorem dX16_damage_73 : decode cX16_damage 73 = .ok (.iinc 3 1, 3) := by decide +kernel
theorem dX16_damage_76 : decode cX16_damage 76 = .ok (.goto (-60), 3) := by decide +kernel
theorem dX16_damage_79 : decode cX16_damage 79 = .ok (.aload_n 0, 1) := by decide +kernel
theorem dX16_damage_80 : decode cX16_damage 80 = .ok (.getfield 15, 3) := by decide +kernel
theorem dX16_damage_83 : decode cX16_damage 83 = .ok (.iload_n 1, 1) := by decide +kernel
theorem dX16_damage_84 : decode cX16_damage 84 = .ok (.iload_n 2, 1) := by decide +kernel
theorem dX16_damage_85 : decode cX16_damage 85 = .ok (.i2b, 1) := by decide +kernel
theorem dX16_damage_86 : decode cX16_damage 86 = .ok (.bastore, 1) := by decide +kernel
theorem dX16_damage_87 : decode cX16_damage 87 = .ok (.iconst 1, 1) := by decide +kernel
theorem dX16_damage_88 : decode cX16_damage 88 = .ok (.ireturn, 1) := by decide +kernel
theorem wX16_damage_L79 {x : GX} {n0 sl0 : Nat} (X : Cx x cX16_damage RX16 (some .boolean) n0 sl0 2 41) {out : Int32 × Mm} (hE : Ends x n0 sl0 (some (pI out.1)) out.2) (hn : xn x = 5) (fu : Nat)   (a0 : Nat) (a1 : Int32) (a2 : Int32)  (M : Mm) (h : fX16_damage_L79 fu  a0 a1 a2 M = some out) : Gw x M 79 [(0, pR (some a0)), (1, pI a1), (2, pI a2)] [] := by
  unfold fX16_damage_L79 at h
  refine g_aload_n X (pc := 79) 0 rfl rfl dX16_damage_79 ?_
  obtain ⟨v1, ev1, h⟩ := bd h
  refine g_getR X (pc := 80) fk_16_2 rfl rfl ev1 tb_1816 dX16_damage_80 ?_
  refine g_iload_n X (pc := 83) 1 rfl rfl dX16_damage_83 ?_
  refine g_iload_n X (pc := 84) 2 rfl rfl dX16_damage_84 ?_
  refine g_i2b X (pc := 85) dX16_damage_85 ?_
  obtain ⟨M2, eM2, h⟩ := bd h
  refine g_bastore X (pc := 86) eM2 dX16_damage_86 ?_
  refine g_iconst X (pc := 87) (v := 1) dX16_damage_87 (by decide) ?_
  obtain ⟨hz, rfl⟩ := rN_some h
  exact g_nreturn X rfl hz hE dX16_damage_88
theorem wX16_damage_L73 {x : GX} {n0 sl0 : Nat} (X : Cx x cX16_damage RX16 (some .boolean) n0 sl0 2 41) {out : Int32 × Mm} (hE : Ends x n0 sl0 (some (pI out.1)) out.2) (hn : xn x = 5) (fu : Nat) (k16 : Nat → Int32 → Int32 → Int32 → Mm → Option (Int32 × Mm)) (hk16 : ∀ (b0 : Nat) (b1 : Int32) (b2 : Int32) (b3 : Int32)  (M : Mm), k16 b0 b1 b2 b3 M = some out → Gw x M 16 [(0, pR (some b0)), (1, pI b1), (2, pI b2), (3, pI b3)] []) (a0 : Nat) (a1 : Int32) (a2 : Int32) (a3 : Int32)  (M : Mm) (h : fX16_damage_L73 fu k16 a0 a1 a2 a3 M = some out) : Gw x M 73 [(0, pR (some a0)), (1, pI a1), (2, pI a2), (3, pI a3)] [] := by
  unfold fX16_damage_L73 at h
  refine g_iinc X (pc := 73) 3 [(3, pI (a3 + (1 : Int32))), (0, pR (some a0)), (1, pI a1), (2, pI a2)] rfl (iinc_e (by decide)) (lt_n hn (by decide)) rfl dX16_damage_73 ?_
  refine g_goto X (pc := 76) (tgt := 16) dX16_damage_76 (by decide) ?_
  refine g_sub [1, 2, 3, 0] [(0, pR (some a0)), (1, pI a1), (2, pI a2), (3, pI (a3 + (1 : Int32)))] rfl ?_
  exact hk16 a0 a1 a2 (a3 + (1 : Int32)) M h
theorem wX16_damage_L16 {x : GX} {n0 sl0 : Nat} (X : Cx x cX16_damage RX16 (some .boolean) n0 sl0 2 41) {out : Int32 × Mm} (hE : Ends x n0 sl0 (some (pI out.1)) out.2) (hn : xn x = 5) (fu : Nat)   : ∀ (n : Nat) (a0 : Nat) (a1 : Int32) (a2 : Int32) (a3 : Int32)  (M : Mm), fX16_damage_L16 fu  n a0 a1 a2 a3 M = some out → Gw x M 16 [(0, pR (some a0)), (1, pI a1), (2, pI a2), (3, pI a3)] [] := by
  intro n
  induction n with
  | zero =>
    intro a0 a1 a2 a3 M h
    have h : (none : Option (Int32 × Mm)) = some out := h
    cases h
  | succ n ih =>
    intro a0 a1 a2 a3 M h
    rw [fX16_damage_L16] at h
    refine g_iload_n X (pc := 16) 3 rfl rfl dX16_damage_16 ?_
    refine g_bipush X (pc := 17) (v := 16) dX16_damage_17 (by decide) ?_
    refine g_icmp_ge X (pc := 19) (tgt := 79) dX16_damage_19 (by decide) (fun hc => ?_) (fun hc => ?_)
    · have h := (if_pos hc).symm.trans h
      refine g_sub [0, 1, 2] [(0, pR (some a0)), (1, pI a1), (2, pI a2)] rfl ?_
      exact wX16_damage_L79 X hE hn fu   a0 a1 a2 M h
    · have h := (if_neg hc).symm.trans h
      refine g_aload_n X (pc := 22) 0 rfl rfl dX16_damage_22 ?_
      obtain ⟨v1, ev1, h⟩ := bd h
      refine g_getI X (pc := 23) fk_16_4 rfl rfl ev1 tb_1818 dX16_damage_23 ?_
      refine g_if_eq X (pc := 26) (tgt := 79) dX16_damage_26 (by decide) (fun hc => ?_) (fun hc => ?_)
      · have h := (if_pos hc).symm.trans h
        refine g_sub [0, 1, 2] [(0, pR (some a0)), (1, pI a1), (2, pI a2)] rfl ?_
        exact wX16_damage_L79 X hE hn fu   a0 a1 a2 M h
      · have h := (if_neg hc).symm.trans h
        refine g_aload_n X (pc := 29) 0 rfl rfl dX16_damage_29 ?_
        obtain ⟨v2, ev2, h⟩ := bd h
        refine g_getR X (pc := 30) fk_16_31 rfl rfl ev2 tb_1845 dX16_damage_30 ?_
        refine g_iload_n X (pc := 33) 3 rfl rfl dX16_damage_33 ?_
        obtain ⟨v3, ev3, h⟩ := bd h
        refine g_aaload X (pc := 34) (k := 9) rfl rfl (by decide) ev3 dX16_damage_34 ?_
        refine g_astore X (pc := 35) [(4, pR v3), (0, pR (some a0)), (1, pI a1), (2, pI a2), (3, pI a3)] (lt_n hn (by decide)) rfl dX16_damage_35 ?_
        refine g_aload X (pc := 37) 0 rfl dX16_damage_37 ?_
        obtain ⟨v4, ev4, h⟩ := bd h
        refine g_getI X (pc := 39) fk_12_0 rfl rfl ev4 tb_1580 dX16_damage_39 ?_
        refine g_if_eq X (pc := 42) (tgt := 73) dX16_damage_42 (by decide) (fun hc => ?_) (fun hc => ?_)
        · have h := (if_pos hc).symm.trans h
          refine g_sub [1, 2, 3, 4] [(0, pR (some a0)), (1, pI a1), (2, pI a2), (3, pI a3)] rfl ?_
          exact wX16_damage_L73 X hE hn fu (fun b0 b1 b2 b3 M => fX16_damage_L16 fu  n b0 b1 b2 b3 M) ih a0 a1 a2 a3 M h
        · have h := (if_neg hc).symm.trans h
          refine g_aload X (pc := 45) 0 rfl dX16_damage_45 ?_
          obtain ⟨v5, ev5, h⟩ := bd h
          refine g_getI X (pc := 47) fk_12_4 rfl rfl ev5 tb_1584 dX16_damage_47 ?_
          refine g_aload X (pc := 50) 0 rfl dX16_damage_50 ?_
          obtain ⟨v6, ev6, h⟩ := bd h
          refine g_getI X (pc := 52) fk_12_6 rfl rfl ev6 tb_1586 dX16_damage_52 ?_
          refine g_icmp_ne X (pc := 55) (tgt := 71) dX16_damage_55 (by decide) (fun hc => ?_) (fun hc => ?_)
          · have h := (if_neg hc).symm.trans h
            refine g_iconst X (pc := 71) (v := 0) dX16_damage_71 (by decide) ?_
            obtain ⟨hz, rfl⟩ := rN_some h
            exact g_nreturn X rfl hz hE dX16_damage_72
          · have h := (if_pos hc).symm.trans h
            refine g_aload X (pc := 58) 0 rfl dX16_damage_58 ?_
            refine g_aload X (pc := 60) 0 rfl dX16_damage_60 ?_
            obtain ⟨v7, ev7, h⟩ := bd h
            refine g_getI X (pc := 62) fk_12_5 rfl rfl ev7 tb_1585 dX16_damage_62 ?_
            obtain ⟨q8, eq8, h⟩ := bd h
            obtain ⟨v10, M9, eM9, h⟩ := b2d h
            refine g_callV X (pc := 65) (M' := M9) (ro := some (pI v10)) (c := 12) rfl (by decide) (as := [pI v7]) (as' := [pI v7]) (st := []) eq8 (ctX12_left _ _ _ _ _ _ fu q8 v7 M _ eM9) tb_2070 tb_2067 tb_2068 tb_2069 tb_9 ⟨rfl, hyX12_left⟩ rfl rfl ⟨by decide, by decide⟩ (Nat.le_of_ble_eq_true rfl) dX16_damage_65 ?_
            refine g_if_le X (pc := 68) (tgt := 73) dX16_damage_68 (by decide) (fun hc => ?_) (fun hc => ?_)
            · have h := (if_pos hc).symm.trans h
              refine g_sub [1, 2, 3, 4] [(0, pR (some a0)), (1, pI a1), (2, pI a2), (3, pI a3)] rfl ?_
              exact wX16_damage_L73 X hE hn fu (fun b0 b1 b2 b3 M => fX16_damage_L16 fu  n b0 b1 b2 b3 M) ih a0 a1 a2 a3 M9 h
            · have h := (if_neg hc).symm.trans h
              refine g_iconst X (pc := 71) (v := 0) dX16_damage_71 (by decide) ?_
              obtain ⟨hz, rfl⟩ := rN_some h
              exact g_nreturn X rfl hz hE dX16_damage_72
theorem wX16_damage {x : GX} {n0 sl0 : Nat} (X : Cx x cX16_damage RX16 (some .boolean) n0 sl0 2 41) {out : Int32 × Mm} (hE : Ends x n0 sl0 (some (pI out.1)) out.2) (hn : xn x = 5) (fu : Nat)   (a0 : Nat) (a1 : Int32) (a2 : Int32)  (M : Mm) (h : fX16_damage fu  a0 a1 a2 M = some out) : Gw x M 0 [(0, pR (some a0)), (1, pI a1), (2, pI a2)] [] := by
  unfold fX16_damage at h
  refine g_iload_n X (pc := 0) 1 rfl rfl dX16_damage_0 ?_
  refine g_if_lt X (pc := 1) (tgt := 12) dX16_damage_1 (by decide) (fun hc => ?_) (fun hc => ?_)
  · have h := (if_pos hc).symm.trans h
    refine g_iconst X (pc := 12) (v := 0) dX16_damage_12 (by decide) ?_
    obtain ⟨hz, rfl⟩ := rN_some h
    exact g_nreturn X rfl hz hE dX16_damage_13
  · have h := (if_neg hc).symm.trans h
    refine g_iload_n X (pc := 4) 1 rfl rfl dX16_damage_4 ?_
    refine g_aload_n X (pc := 5) 0 rfl rfl dX16_damage_5 ?_
    obtain ⟨v1, ev1, h⟩ := bd h
    refine g_getI X (pc := 6) fk_16_3 rfl rfl ev1 tb_1817 dX16_damage_6 ?_
    refine g_icmp_lt X (pc := 9) (tgt := 14) dX16_damage_9 (by decide) (fun hc => ?_) (fun hc => ?_)
    · have h := (if_pos hc).symm.trans h
      refine g_iconst X (pc := 14) (v := 0) dX16_damage_14 (by decide) ?_
      refine g_istore_n X (pc := 15) [(3, pI (0 : Int32)), (0, pR (some a0)), (1, pI a1), (2, pI a2)] rfl (lt_n hn (by decide)) rfl dX16_damage_15 ?_
      refine g_sub [1, 2, 3, 0] [(0, pR (some a0)), (1, pI a1), (2, pI a2), (3, pI (0 : Int32))] rfl ?_
      exact wX16_damage_L16 X hE hn fu   fu a0 a1 a2 (0 : Int32) M h
    · have h := (if_neg hc).symm.trans h
      refine g_iconst X (pc := 12) (v := 0) dX16_damage_12 (by decide) ?_
      obtain ⟨hz, rfl⟩ := rN_some h
      exact g_nreturn X rfl hz hE dX16_damage_13
theorem hyX16_damage : yX16_damage.cls ≠ "java/lang/invoke/MethodHandle" ∧ yX16_damage.cls ≠ "java/lang/invoke/VarHandle" ∧ (parseMethodDescriptor yX16_damage.desc).map (fun d => d.parameters.length) = some 2 := ⟨by decide +kernel, by decide +kernel, by decide +kernel⟩
theorem ctX16_damage (l : Launch) (E : Nat → Nat) (D : va_G) (dA : Nat → ClassId) (lo : Nat) (H0 : Heap) (fu : Nat) (a0 : Nat) (a1 : Int32) (a2 : Int32) (M : Mm) (out : Int32 × Mm) (h : fX16_damage fu a0 a1 a2 M = some out) : Ct l E D dA lo H0 yX16_damage cX16_damage 5 (some .boolean) 2 41 [pR (some a0), pI a1, pI a2] M (some (pI out.1)) out.2 := by
  refine ct_of (by decide +kernel) (Nat.le_of_ble_eq_true rfl) ?_
  intro x hl he hd ha ho hh hn hin X hE
  exact wX16_damage X hE hn fu a0 a1 a2 M h
/-! WebHostModel.strays()I -/
def fX16_strays (fu : Nat)  (a0 : Nat)  (M : Mm) : Option (Int32 × Mm) :=
    (gI M 16 1042 (some a0)).bind fun v1 =>
    some (v1, M)
theorem dX16_strays_0 : decode cX16_strays 0 = .ok (.aload_n 0, 1) := by decide +kernel
theorem dX16_strays_1 : decode cX16_strays 1 = .ok (.getfield 146, 3) := by decide +kernel
theorem dX16_strays_4 : decode cX16_strays 4 = .ok (.ireturn, 1) := by decide +kernel
theorem wX16_strays {x : GX} {n0 sl0 : Nat} (X : Cx x cX16_strays RX16 (some .int) n0 sl0 0 0) {out : Int32 × Mm} (hE : Ends x n0 sl0 (some (pI out.1)) out.2) (hn : xn x = 1) (fu : Nat)   (a0 : Nat)  (M : Mm) (h : fX16_strays fu  a0 M = some out) : Gw x M 0 [(0, pR (some a0))] [] := by
  unfold fX16_strays at h
  refine g_aload_n X (pc := 0) 0 rfl rfl dX16_strays_0 ?_
  obtain ⟨v1, ev1, h⟩ := bd h
  refine g_getI X (pc := 1) fk_16_18 rfl rfl ev1 tb_1832 dX16_strays_1 ?_
  obtain rfl := Option.some.inj h
  exact g_ireturn X hE dX16_strays_4
theorem hyX16_strays : yX16_strays.cls ≠ "java/lang/invoke/MethodHandle" ∧ yX16_strays.cls ≠ "java/lang/invoke/VarHandle" ∧ (parseMethodDescriptor yX16_strays.desc).map (fun d => d.parameters.length) = some 0 := ⟨by decide +kernel, by decide +kernel, by decide +kernel⟩
theorem ctX16_strays (l : Launch) (E : Nat → Nat) (D : va_G) (dA : Nat → ClassId) (lo : Nat) (H0 : Heap) (fu : Nat) (a0 : Nat) (M : Mm) (out : Int32 × Mm) (h : fX16_strays fu a0 M = some out) : Ct l E D dA lo H0 yX16_strays cX16_strays 1 (some .int) 0 0 [pR (some a0)] M (some (pI out.1)) out.2 := by
  refine ct_of (by decide +kernel) (Nat.le_of_ble_eq_true rfl) ?_
  intro x hl he hd ha ho hh hn hin X hE
  exact wX16_strays X hE hn fu a0 M h
