/-! ===== walks of methods, printed by a program of ours ===== -/
/-! WebHostModel.isIdle(LWebHostModel$Connection;)Z -/
def fX16_isIdle (fu : Nat)  (a0 : Option Nat)  (M : Mm) : Option (Int32 × Mm) :=
    (gI M 12 768 a0).bind fun v1 =>
    if v1 = (2 : Int32) then (
    (gI M 12 798 a0).bind fun v2 =>
    if v2 = 0 then (
    (gI M 12 772 a0).bind fun v3 =>
    (gI M 12 774 a0).bind fun v4 =>
    if v3 = v4 then (
    (gI M 12 773 a0).bind fun v5 =>
    (rc M 12 a0).bind fun q6 =>
    b2 (fX12_left fu q6 v5 M) fun v8 M7 =>
    if v8 = 0 then (
    rN .boolean (1 : Int32) M7)
    else (
    rN .boolean (0 : Int32) M7))
    else (
    rN .boolean (0 : Int32) M))
    else (
    rN .boolean (0 : Int32) M))
    else (
    rN .boolean (0 : Int32) M)
theorem dX16_isIdle_0 : decode cX16_isIdle 0 = .ok (.aload_n 0, 1) := by decide +kernel
theorem dX16_isIdle_1 : decode cX16_isIdle 1 = .ok (.getfield 152, 3) := by decide +kernel
theorem dX16_isIdle_4 : decode cX16_isIdle 4 = .ok (.iconst 2, 1) := by decide +kernel
theorem dX16_isIdle_5 : decode cX16_isIdle 5 = .ok (.if_icmp .ne 36, 3) := by decide +kernel
theorem dX16_isIdle_8 : decode cX16_isIdle 8 = .ok (.aload_n 0, 1) := by decide +kernel
theorem dX16_isIdle_9 : decode cX16_isIdle 9 = .ok (.getfield 418, 3) := by decide +kernel
theorem dX16_isIdle_12 : decode cX16_isIdle 12 = .ok (.ifCond .ne 29, 3) := by decide +kernel
theorem dX16_isIdle_15 : decode cX16_isIdle 15 = .ok (.aload_n 0, 1) := by decide +kernel
theorem dX16_isIdle_16 : decode cX16_isIdle 16 = .ok (.getfield 428, 3) := by decide +kernel
theorem dX16_isIdle_19 : decode cX16_isIdle 19 = .ok (.aload_n 0, 1) := by decide +kernel
theorem dX16_isIdle_20 : decode cX16_isIdle 20 = .ok (.getfield 361, 3) := by decide +kernel
theorem dX16_isIdle_23 : decode cX16_isIdle 23 = .ok (.if_icmp .ne 18, 3) := by decide +kernel
theorem dX16_isIdle_26 : decode cX16_isIdle 26 = .ok (.aload_n 0, 1) := by decide +kernel
theorem dX16_isIdle_27 : decode cX16_isIdle 27 = .ok (.aload_n 0, 1) := by decide +kernel
theorem dX16_isIdle_28 : decode cX16_isIdle 28 = .ok (.getfield 345, 3) := by decide +kernel
theorem dX16_isIdle_31 : decode cX16_isIdle 31 = .ok (.invokevirtual 425, 3) := by decide +kernel
theorem dX16_isIdle_34 : decode cX16_isIdle 34 = .ok (.ifCond .ne 7, 3) := by decide +kernel
theorem dX16_isIdle_37 : decode cX16_isIdle 37 = .ok (.iconst 1, 1) := by decide +kernel
theorem dX16_isIdle_38 : decode cX16_isIdle 38 = .ok (.goto 4, 3) := by decide +kernel
theorem dX16_isIdle_41 : decode cX16_isIdle 41 = .ok (.iconst 0, 1) := by decide +kernel
theorem dX16_isIdle_42 : decode cX16_isIdle 42 = .ok (.ireturn, 1) := by decide +kernel
theorem wX16_isIdle {x : GX} {n0 sl0 : Nat} (X : Cx x cX16_isIdle RX16 (some .boolean) n0 sl0 2 41) {out : Int32 × Mm} (hE : Ends x n0 sl0 (some (pI out.1)) out.2) (hn : xn x = 1) (fu : Nat)   (a0 : Option Nat)  (M : Mm) (h : fX16_isIdle fu  a0 M = some out) : Gw x M 0 [(0, pR a0)] [] := by
  unfold fX16_isIdle at h
  refine g_aload_n X (pc := 0) 0 rfl rfl dX16_isIdle_0 ?_
  obtain ⟨v1, ev1, h⟩ := bd h
  refine g_getI X (pc := 1) fk_12_0 rfl rfl ev1 tb_1580 dX16_isIdle_1 ?_
  refine g_iconst X (pc := 4) (v := 2) dX16_isIdle_4 (by decide) ?_
  refine g_icmp_ne X (pc := 5) (tgt := 41) dX16_isIdle_5 (by decide) (fun hc => ?_) (fun hc => ?_)
  · have h := (if_neg hc).symm.trans h
    refine g_iconst X (pc := 41) (v := 0) dX16_isIdle_41 (by decide) ?_
    obtain ⟨hz, rfl⟩ := rN_some h
    exact g_nreturn X rfl hz hE dX16_isIdle_42
  · have h := (if_pos hc).symm.trans h
    refine g_aload_n X (pc := 8) 0 rfl rfl dX16_isIdle_8 ?_
    obtain ⟨v2, ev2, h⟩ := bd h
    refine g_getI X (pc := 9) fk_12_30 rfl rfl ev2 tb_1615 dX16_isIdle_9 ?_
    refine g_if_ne X (pc := 12) (tgt := 41) dX16_isIdle_12 (by decide) (fun hc => ?_) (fun hc => ?_)
    · have h := (if_neg hc).symm.trans h
      refine g_iconst X (pc := 41) (v := 0) dX16_isIdle_41 (by decide) ?_
      obtain ⟨hz, rfl⟩ := rN_some h
      exact g_nreturn X rfl hz hE dX16_isIdle_42
    · have h := (if_pos hc).symm.trans h
      refine g_aload_n X (pc := 15) 0 rfl rfl dX16_isIdle_15 ?_
      obtain ⟨v3, ev3, h⟩ := bd h
      refine g_getI X (pc := 16) fk_12_4 rfl rfl ev3 tb_1584 dX16_isIdle_16 ?_
      refine g_aload_n X (pc := 19) 0 rfl rfl dX16_isIdle_19 ?_
      obtain ⟨v4, ev4, h⟩ := bd h
      refine g_getI X (pc := 20) fk_12_6 rfl rfl ev4 tb_1586 dX16_isIdle_20 ?_
      refine g_icmp_ne X (pc := 23) (tgt := 41) dX16_isIdle_23 (by decide) (fun hc => ?_) (fun hc => ?_)
      · have h := (if_neg hc).symm.trans h
        refine g_iconst X (pc := 41) (v := 0) dX16_isIdle_41 (by decide) ?_
        obtain ⟨hz, rfl⟩ := rN_some h
        exact g_nreturn X rfl hz hE dX16_isIdle_42
      · have h := (if_pos hc).symm.trans h
        refine g_aload_n X (pc := 26) 0 rfl rfl dX16_isIdle_26 ?_
        refine g_aload_n X (pc := 27) 0 rfl rfl dX16_isIdle_27 ?_
        obtain ⟨v5, ev5, h⟩ := bd h
        refine g_getI X (pc := 28) fk_12_5 rfl rfl ev5 tb_1585 dX16_isIdle_28 ?_
        obtain ⟨q6, eq6, h⟩ := bd h
        obtain ⟨v8, M7, eM7, h⟩ := b2d h
        refine g_callV X (pc := 31) (M' := M7) (ro := some (pI v8)) (c := 12) rfl (by decide) (as := [pI v5]) (as' := [pI v5]) (st := []) eq6 (ctX12_left _ _ _ _ _ _ fu q6 v5 M _ eM7) tb_2070 tb_2067 tb_2068 tb_2069 tb_9 ⟨rfl, hyX12_left⟩ rfl rfl ⟨by decide, by decide⟩ (Nat.le_of_ble_eq_true rfl) dX16_isIdle_31 ?_
        refine g_if_ne X (pc := 34) (tgt := 41) dX16_isIdle_34 (by decide) (fun hc => ?_) (fun hc => ?_)
        · have h := (if_neg hc).symm.trans h
          refine g_iconst X (pc := 41) (v := 0) dX16_isIdle_41 (by decide) ?_
          obtain ⟨hz, rfl⟩ := rN_some h
          exact g_nreturn X rfl hz hE dX16_isIdle_42
        · have h := (if_pos hc).symm.trans h
          refine g_iconst X (pc := 37) (v := 1) dX16_isIdle_37 (by decide) ?_
          refine g_goto X (pc := 38) (tgt := 42) dX16_isIdle_38 (by decide) ?_
          obtain ⟨hz, rfl⟩ := rN_some h
          exact g_nreturn X rfl hz hE dX16_isIdle_42
theorem hyX16_isIdle : yX16_isIdle.cls ≠ "java/lang/invoke/MethodHandle" ∧ yX16_isIdle.cls ≠ "java/lang/invoke/VarHandle" ∧ (parseMethodDescriptor yX16_isIdle.desc).map (fun d => d.parameters.length) = some 1 := ⟨by decide +kernel, by decide +kernel, by decide +kernel⟩
theorem ctX16_isIdle (l : Launch) (E : Nat → Nat) (D : va_G) (dA : Nat → ClassId) (lo : Nat) (H0 : Heap) (fu : Nat) (a0 : Option Nat) (M : Mm) (out : Int32 × Mm) (h : fX16_isIdle fu a0 M = some out) : Ct l E D dA lo H0 yX16_isIdle cX16_isIdle 1 (some .boolean) 2 41 [pR a0] M (some (pI out.1)) out.2 := by
  refine ct_of (by decide +kernel) (Nat.le_of_ble_eq_true rfl) ?_
  intro x hl he hd ha ho hh hn hin X hE
  exact wX16_isIdle X hE hn fu a0 M h
/-! WebHostModel.life(LWebHostModel$Connection;)J -/
def fX16_life_L17 (fu : Nat)  (a0 : Option Nat)  (M : Mm) : Option (Int64 × Mm) :=
    (gI M 12 813 a0).bind fun v1 =>
    some (((Int32.toInt64 v1) + (60000 : Int64)), M)
def fX16_life (fu : Nat)  (a0 : Option Nat)  (M : Mm) : Option (Int64 × Mm) :=
    (gI M 12 768 a0).bind fun v1 =>
    if v1 = (6 : Int32) then (
    fX16_life_L17 fu  a0 M)
    else (
    (gI M 12 768 a0).bind fun v2 =>
    if v2 = (4 : Int32) then (
    fX16_life_L17 fu  a0 M)
    else (
    b2 (fX16_isIdle fu  a0 M) fun v4 M3 =>
    if v4 = 0 then (
    some ((9223372036854775807 : Int64), M3))
    else (
    (gI M3 12 812 a0).bind fun v5 =>
    some (((Int32.toInt64 v5) + (30000 : Int64)), M3))))
theorem dX16_life_0 : decode cX16_life 0 = .ok (.aload_n 0, 1) := by decide +kernel
theorem dX16_life_1 : decode cX16_life 1 = .ok (.getfield 152, 3) := by decide +kernel
theorem dX16_life_4 : decode cX16_life 4 = .ok (.bipush 6, 2) := by decide +kernel
theorem dX16_life_6 : decode cX16_life 6 = .ok (.if_icmp .eq 11, 3) := by decide +kernel
theorem dX16_life_9 : decode cX16_life 9 = .ok (.aload_n 0, 1) := by decide +kernel
theorem dX16_life_10 : decode cX16_life 10 = .ok (.getfield 152, 3) := by decide +kernel
theorem dX16_life_13 : decode cX16_life 13 = .ok (.iconst 4, 1) := by decide +kernel
theorem dX16_life_14 : decode cX16_life 14 = .ok (.if_icmp .ne 13, 3) := by decide +kernel
theorem dX16_life_17 : decode cX16_life 17 = .ok (.aload_n 0, 1) := by decide +kernel
theorem dX16_life_18 : decode cX16_life 18 = .ok (.getfield 499, 3) := by decide +kernel
theorem dX16_life_21 : decode cX16_life 21 = .ok (.i2l, 1) := by decide +kernel
theorem dX16_life_22 : decode cX16_life 22 = .ok (.ldc2_w 553, 3) := by decide +kernel
theorem dX16_life_25 : decode cX16_life 25 = .ok (.ladd, 1) := by decide +kernel
theorem dX16_life_26 : decode cX16_life 26 = .ok (.lreturn, 1) := by decide +kernel
theorem dX16_life_27 : decode cX16_life 27 = .ok (.aload_n 0, 1) := by decide +kernel
theorem dX16_life_28 : decode cX16_life 28 = .ok (.invokestatic 566, 3) := by decide +kernel
theorem dX16_life_31 : decode cX16_life 31 = .ok (.ifCond .eq 15, 3) := by decide +kernel
theorem dX16_life_34 : decode cX16_life 34 = .ok (.aload_n 0, 1) := by decide +kernel
theorem dX16_life_35 : decode cX16_life 35 = .ok (.getfield 523, 3) := by decide +kernel
theorem dX16_life_38 : decode cX16_life 38 = .ok (.i2l, 1) := by decide +kernel
theorem dX16_life_39 : decode cX16_life 39 = .ok (.ldc2_w 569, 3) := by decide +kernel
theorem dX16_life_42 : decode cX16_life 42 = .ok (.ladd, 1) := by decide +kernel
theorem dX16_life_43 : decode cX16_life 43 = .ok (.goto 6, 3) := by decide +kernel
theorem dX16_life_46 : decode cX16_life 46 = .ok (.ldc2_w 573, 3) := by decide +kernel
theorem dX16_life_49 : decode cX16_life 49 = .ok (.lreturn, 1) := by decide +kernel
theorem wX16_life_L17 {x : GX} {n0 sl0 : Nat} (X : Cx x cX16_life RX16 (some .long) n0 sl0 3 61) {out : Int64 × Mm} (hE : Ends x n0 sl0 (some (pL out.1)) out.2) (hn : xn x = 1) (fu : Nat)   (a0 : Option Nat)  (M : Mm) (h : fX16_life_L17 fu  a0 M = some out) : Gw x M 17 [(0, pR a0)] [] := by
  unfold fX16_life_L17 at h
  refine g_aload_n X (pc := 17) 0 rfl rfl dX16_life_17 ?_
  obtain ⟨v1, ev1, h⟩ := bd h
  refine g_getI X (pc := 18) fk_12_45 rfl rfl ev1 tb_1635 dX16_life_18 ?_
  refine g_i2l X (pc := 21) dX16_life_21 ?_
  refine g_ldc2 X (pc := 22) tb_2063 dX16_life_22 ?_
  refine g_ladd X (pc := 25) dX16_life_25 ?_
  obtain rfl := Option.some.inj h
  exact g_lreturn X hE dX16_life_26
theorem wX16_life {x : GX} {n0 sl0 : Nat} (X : Cx x cX16_life RX16 (some .long) n0 sl0 3 61) {out : Int64 × Mm} (hE : Ends x n0 sl0 (some (pL out.1)) out.2) (hn : xn x = 1) (fu : Nat)   (a0 : Option Nat)  (M : Mm) (h : fX16_life fu  a0 M = some out) : Gw x M 0 [(0, pR a0)] [] := by
  unfold fX16_life at h
  refine g_aload_n X (pc := 0) 0 rfl rfl dX16_life_0 ?_
  obtain ⟨v1, ev1, h⟩ := bd h
  refine g_getI X (pc := 1) fk_12_0 rfl rfl ev1 tb_1580 dX16_life_1 ?_
  refine g_bipush X (pc := 4) (v := 6) dX16_life_4 (by decide) ?_
  refine g_icmp_eq X (pc := 6) (tgt := 17) dX16_life_6 (by decide) (fun hc => ?_) (fun hc => ?_)
  · have h := (if_pos hc).symm.trans h
    exact wX16_life_L17 X hE hn fu   a0 M h
  · have h := (if_neg hc).symm.trans h
    refine g_aload_n X (pc := 9) 0 rfl rfl dX16_life_9 ?_
    obtain ⟨v2, ev2, h⟩ := bd h
    refine g_getI X (pc := 10) fk_12_0 rfl rfl ev2 tb_1580 dX16_life_10 ?_
    refine g_iconst X (pc := 13) (v := 4) dX16_life_13 (by decide) ?_
    refine g_icmp_ne X (pc := 14) (tgt := 27) dX16_life_14 (by decide) (fun hc => ?_) (fun hc => ?_)
    · have h := (if_neg hc).symm.trans h
      refine g_aload_n X (pc := 27) 0 rfl rfl dX16_life_27 ?_
      obtain ⟨v4, M3, eM3, h⟩ := b2d h
      refine g_callS X (pc := 28) (M' := M3) (ro := some (pI v4)) (as := [pR a0]) (as' := [pR a0]) (st := []) (ctX16_isIdle _ _ _ _ _ _ fu  a0 M _ eM3) tb_2066 tb_2064 tb_2065 tb_8 hyX16_isIdle rfl rfl ⟨by decide, by decide⟩ (Nat.le_of_ble_eq_true rfl) dX16_life_28 ?_
      refine g_if_eq X (pc := 31) (tgt := 46) dX16_life_31 (by decide) (fun hc => ?_) (fun hc => ?_)
      · have h := (if_pos hc).symm.trans h
        refine g_ldc2 X (pc := 46) tb_2054 dX16_life_46 ?_
        obtain rfl := Option.some.inj h
        exact g_lreturn X hE dX16_life_49
      · have h := (if_neg hc).symm.trans h
        refine g_aload_n X (pc := 34) 0 rfl rfl dX16_life_34 ?_
        obtain ⟨v5, ev5, h⟩ := bd h
        refine g_getI X (pc := 35) fk_12_44 rfl rfl ev5 tb_1634 dX16_life_35 ?_
        refine g_i2l X (pc := 38) dX16_life_38 ?_
        refine g_ldc2 X (pc := 39) tb_2075 dX16_life_39 ?_
        refine g_ladd X (pc := 42) dX16_life_42 ?_
        refine g_goto X (pc := 43) (tgt := 49) dX16_life_43 (by decide) ?_
        obtain rfl := Option.some.inj h
        exact g_lreturn X hE dX16_life_49
    · have h := (if_pos hc).symm.trans h
      exact wX16_life_L17 X hE hn fu   a0 M h
theorem hyX16_life : yX16_life.cls ≠ "java/lang/invoke/MethodHandle" ∧ yX16_life.cls ≠ "java/lang/invoke/VarHandle" ∧ (parseMethodDescriptor yX16_life.desc).map (fun d => d.parameters.length) = some 1 := ⟨by decide +kernel, by decide +kernel, by decide +kernel⟩
theorem ctX16_life (l : Launch) (E : Nat → Nat) (D : va_G) (dA : Nat → ClassId) (lo : Nat) (H0 : Heap) (fu : Nat) (a0 : Option Nat) (M : Mm) (out : Int64 × Mm) (h : fX16_life fu a0 M = some out) : Ct l E D dA lo H0 yX16_life cX16_life 1 (some .long) 3 61 [pR a0] M (some (pL out.1)) out.2 := by
  refine ct_of (by decide +kernel) (Nat.le_of_ble_eq_true rfl) ?_
  intro x hl he hd ha ho hh hn hin X hE
  exact wX16_life X hE hn fu a0 M h
/-! WebHostModel.lifeEnds(LWebHostModel$Connection;)V -/
def fX16_lifeEnds (fu : Nat)  (a0 : Nat) (a1 : Option Nat)  (M : Mm) : Option (Mm) :=
    (gI M 12 768 a1).bind fun v1 =>
    if v1 = (2 : Int32) then (
    (pZ M 12 798 a1 (1 : Int32)).bind fun M4 =>
    (rc M4 16 (some a0)).bind fun q5 =>
    (fX16_sendAll fu q5 a1 M4).bind fun M6 =>
    some M6)
    else (
    (rc M 16 (some a0)).bind fun q2 =>
    (fX16_gone fu q2 a1 M).bind fun M3 =>
    some M3)
theorem dX16_lifeEnds_0 : decode cX16_lifeEnds 0 = .ok (.aload_n 1, 1) := by decide +kernel
theorem dX16_lifeEnds_1 : decode cX16_lifeEnds 1 = .ok (.getfield 152, 3) := by decide +kernel
theorem dX16_lifeEnds_4 : decode cX16_lifeEnds 4 = .ok (.iconst 2, 1) := by decide +kernel
theorem dX16_lifeEnds_5 : decode cX16_lifeEnds 5 = .ok (.if_icmp .ne 16, 3) := by decide +kernel
theorem dX16_lifeEnds_8 : decode cX16_lifeEnds 8 = .ok (.aload_n 1, 1) := by decide +kernel
theorem dX16_lifeEnds_9 : decode cX16_lifeEnds 9 = .ok (.iconst 1, 1) := by decide +kernel
theorem dX16_lifeEnds_10 : decode cX16_lifeEnds 10 = .ok (.putfield 418, 3) := by decide +kernel
theorem dX16_lifeEnds_13 : decode cX16_lifeEnds 13 = .ok (.aload_n 0, 1) := by decide +kernel
theorem dX16_lifeEnds_14 : decode cX16_lifeEnds 14 = .ok (.aload_n 1, 1) := by decide +kernel
theorem dX16_lifeEnds_15 : decode cX16_lifeEnds 15 = .ok (.invokevirtual 514, 3) := by decide +kernel
theorem dX16_lifeEnds_18 : decode cX16_lifeEnds 18 = .ok (.goto 8, 3) := by decide +kernel
theorem dX16_lifeEnds_21 : decode cX16_lifeEnds 21 = .ok (.aload_n 0, 1) := by decide +kernel
theorem dX16_lifeEnds_22 : decode cX16_lifeEnds 22 = .ok (.aload_n 1, 1) := by decide +kernel
theorem dX16_lifeEnds_23 : decode cX16_lifeEnds 23 = .ok (.invokevirtual 502, 3) := by decide +kernel
theorem dX16_lifeEnds_26 : decode cX16_lifeEnds 26 = .ok (.return_, 1) := by decide +kernel
theorem wX16_lifeEnds {x : GX} {n0 sl0 : Nat} (X : Cx x cX16_lifeEnds RX16 none n0 sl0 9 233) {out : Mm} (hE : Ends x n0 sl0 none out) (hn : xn x = 2) (fu : Nat)   (a0 : Nat) (a1 : Option Nat)  (M : Mm) (h : fX16_lifeEnds fu  a0 a1 M = some out) : Gw x M 0 [(0, pR (some a0)), (1, pR a1)] [] := by
  unfold fX16_lifeEnds at h
  refine g_aload_n X (pc := 0) 1 rfl rfl dX16_lifeEnds_0 ?_
  obtain ⟨v1, ev1, h⟩ := bd h
  refine g_getI X (pc := 1) fk_12_0 rfl rfl ev1 tb_1580 dX16_lifeEnds_1 ?_
  refine g_iconst X (pc := 4) (v := 2) dX16_lifeEnds_4 (by decide) ?_
  refine g_icmp_ne X (pc := 5) (tgt := 21) dX16_lifeEnds_5 (by decide) (fun hc => ?_) (fun hc => ?_)
  · have h := (if_neg hc).symm.trans h
    refine g_aload_n X (pc := 21) 0 rfl rfl dX16_lifeEnds_21 ?_
    refine g_aload_n X (pc := 22) 1 rfl rfl dX16_lifeEnds_22 ?_
    obtain ⟨q2, eq2, h⟩ := bd h
    obtain ⟨M3, eM3, h⟩ := bd h
    refine g_callV X (pc := 23) (M' := M3) (ro := none) (c := 16) rfl (by decide) (as := [pR a1]) (as' := [pR a1]) (st := []) eq2 (ctX16_gone _ _ _ _ _ _ fu q2 a1 M _ eM3) tb_2154 tb_2151 tb_2153 ts_82 tb_8 ⟨rfl, hyX16_gone⟩ rfl rfl ⟨by decide, by decide⟩ (Nat.le_of_ble_eq_true rfl) dX16_lifeEnds_23 ?_
    obtain rfl := Option.some.inj h
    exact g_return X hE dX16_lifeEnds_26
  · have h := (if_pos hc).symm.trans h
    refine g_aload_n X (pc := 8) 1 rfl rfl dX16_lifeEnds_8 ?_
    refine g_iconst X (pc := 9) (v := 1) dX16_lifeEnds_9 (by decide) ?_
    obtain ⟨M4, eM4, h⟩ := bd h
    refine g_putZ X (pc := 10) fk_12_30 rfl rfl rfl eM4 tb_1615 (Or.inl rfl) dX16_lifeEnds_10 ?_
    refine g_aload_n X (pc := 13) 0 rfl rfl dX16_lifeEnds_13 ?_
    refine g_aload_n X (pc := 14) 1 rfl rfl dX16_lifeEnds_14 ?_
    obtain ⟨q5, eq5, h⟩ := bd h
    obtain ⟨M6, eM6, h⟩ := bd h
    refine g_callV X (pc := 15) (M' := M6) (ro := none) (c := 16) rfl (by decide) (as := [pR a1]) (as' := [pR a1]) (st := []) eq5 (ctX16_sendAll _ _ _ _ _ _ fu q5 a1 M4 _ eM6) tb_2198 tb_2195 tb_2197 ts_91 tb_8 ⟨rfl, hyX16_sendAll⟩ rfl rfl ⟨by decide, by decide⟩ (Nat.le_of_ble_eq_true rfl) dX16_lifeEnds_15 ?_
    refine g_goto X (pc := 18) (tgt := 26) dX16_lifeEnds_18 (by decide) ?_
    obtain rfl := Option.some.inj h
    exact g_return X hE dX16_lifeEnds_26
theorem hyX16_lifeEnds : yX16_lifeEnds.cls ≠ "java/lang/invoke/MethodHandle" ∧ yX16_lifeEnds.cls ≠ "java/lang/invoke/VarHandle" ∧ (parseMethodDescriptor yX16_lifeEnds.desc).map (fun d => d.parameters.length) = some 1 := ⟨by decide +kernel, by decide +kernel, by decide +kernel⟩
theorem ctX16_lifeEnds (l : Launch) (E : Nat → Nat) (D : va_G) (dA : Nat → ClassId) (lo : Nat) (H0 : Heap) (fu : Nat) (a0 : Nat) (a1 : Option Nat) (M : Mm) (out : Mm) (h : fX16_lifeEnds fu a0 a1 M = some out) : Ct l E D dA lo H0 yX16_lifeEnds cX16_lifeEnds 2 none 9 233 [pR (some a0), pR a1] M none out := by
  refine ct_of (by decide +kernel) (Nat.le_of_ble_eq_true rfl) ?_
  intro x hl he hd ha ho hh hn hin X hE
  exact wX16_lifeEnds X hE hn fu a0 a1 M h
/-! WebHostModel.askDue(LWebHostModel$Packet;)J -/
def fX16_askDue (fu : Nat)  (a0 : Option Nat)  (M : Mm) : Option (Int64 × Mm) :=
    (gI M 15 963 a0).bind fun v1 =>
    (gI M 15 964 a0).bind fun v2 =>
    some (((Int32.toInt64 v1) + ((1000 : Int64) * (Int32.toInt64 v2))), M)
theorem dX16_askDue_0 : decode cX16_askDue 0 = .ok (.aload_n 0, 1) := by decide +kernel
theorem dX16_askDue_1 : decode cX16_askDue 1 = .ok (.getfield 230, 3) := by decide +kernel
theorem dX16_askDue_4 : decode cX16_askDue 4 = .ok (.i2l, 1) := by decide +kernel
theorem dX16_askDue_5 : decode cX16_askDue 5 = .ok (.ldc2_w 551, 3) := by decide +kernel
theorem dX16_askDue_8 : decode cX16_askDue 8 = .ok (.aload_n 0, 1) := by decide +kernel
theorem dX16_askDue_9 : decode cX16_askDue 9 = .ok (.getfield 233, 3) := by decide +kernel
theorem dX16_askDue_12 : decode cX16_askDue 12 = .ok (.i2l, 1) := by decide +kernel
theorem dX16_askDue_13 : decode cX16_askDue 13 = .ok (.lmul, 1) := by decide +kernel
theorem dX16_askDue_14 : decode cX16_askDue 14 = .ok (.ladd, 1) := by decide +kernel
theorem dX16_askDue_15 : decode cX16_askDue 15 = .ok (.lreturn, 1) := by decide +kernel
theorem wX16_askDue {x : GX} {n0 sl0 : Nat} (X : Cx x cX16_askDue RX16 (some .long) n0 sl0 0 0) {out : Int64 × Mm} (hE : Ends x n0 sl0 (some (pL out.1)) out.2) (hn : xn x = 1) (fu : Nat)   (a0 : Option Nat)  (M : Mm) (h : fX16_askDue fu  a0 M = some out) : Gw x M 0 [(0, pR a0)] [] := by
  unfold fX16_askDue at h
  refine g_aload_n X (pc := 0) 0 rfl rfl dX16_askDue_0 ?_
  obtain ⟨v1, ev1, h⟩ := bd h
  refine g_getI X (pc := 1) fk_15_3 rfl rfl ev1 tb_1759 dX16_askDue_1 ?_
  refine g_i2l X (pc := 4) dX16_askDue_4 ?_
  refine g_ldc2 X (pc := 5) tb_2058 dX16_askDue_5 ?_
  refine g_aload_n X (pc := 8) 0 rfl rfl dX16_askDue_8 ?_
  obtain ⟨v2, ev2, h⟩ := bd h
  refine g_getI X (pc := 9) fk_15_4 rfl rfl ev2 tb_1760 dX16_askDue_9 ?_
  refine g_i2l X (pc := 12) dX16_askDue_12 ?_
  refine g_lmul X (pc := 13) dX16_askDue_13 ?_
  refine g_ladd X (pc := 14) dX16_askDue_14 ?_
  obtain rfl := Option.some.inj h
  exact g_lreturn X hE dX16_askDue_15
theorem hyX16_askDue : yX16_askDue.cls ≠ "java/lang/invoke/MethodHandle" ∧ yX16_askDue.cls ≠ "java/lang/invoke/VarHandle" ∧ (parseMethodDescriptor yX16_askDue.desc).map (fun d => d.parameters.length) = some 1 := ⟨by decide +kernel, by decide +kernel, by decide +kernel⟩
theorem ctX16_askDue (l : Launch) (E : Nat → Nat) (D : va_G) (dA : Nat → ClassId) (lo : Nat) (H0 : Heap) (fu : Nat) (a0 : Option Nat) (M : Mm) (out : Int64 × Mm) (h : fX16_askDue fu a0 M = some out) : Ct l E D dA lo H0 yX16_askDue cX16_askDue 1 (some .long) 0 0 [pR a0] M (some (pL out.1)) out.2 := by
  refine ct_of (by decide +kernel) (Nat.le_of_ble_eq_true rfl) ?_
  intro x hl he hd ha ho hh hn hin X hE
  exact wX16_askDue X hE hn fu a0 M h
/-! WebHostModel.passTo(I)V -/
def fX16_passTo_L385 (fu : Nat) (k2 : Nat → Int32 → Int32 → Mm → Option (Mm)) (a0 : Nat) (a1 : Int32) (a2 : Int32)  (M : Mm) : Option (Mm) :=
    k2 a0 a1 a2 M
def fX16_passTo_L296 (fu : Nat) (k2 : Nat → Int32 → Int32 → Mm → Option (Mm)) (a0 : Nat) (a1 : Int32) (a3 : Int64) (a5 : Int32) (a6 : Int32) (s0 : Int32) (M : Mm) : Option (Mm) :=
    if s0 = 0 then (
    fX16_passTo_L385 fu k2 a0 a1 s0 M)
    else (
    (gI M 16 1034 (some a0)).bind fun v1 =>
    (pF M 16 1034 (some a0) (Int64.toInt32 (jmaxL (Int32.toInt64 v1) a3))).bind fun M2 =>
    if a5 = 0 then (
    (gR M2 16 1051 (some a0)).bind fun v14 =>
    (gB M2 125 v14 a6).bind fun v15 =>
    (rc M2 16 (some a0)).bind fun q16 =>
    (fX16_askAgain fu q16 v15 M2).bind fun M17 =>
    fX16_passTo_L385 fu k2 a0 a1 s0 M17)
    else (
    if a5 = (1 : Int32) then (
    (gR M2 16 1052 (some a0)).bind fun v11 =>
    (gB M2 123 v11 a6).bind fun v12 =>
    (pZ M2 13 832 v12 (0 : Int32)).bind fun M13 =>
    fX16_passTo_L385 fu k2 a0 a1 s0 M13)
    else (
    if a5 = (2 : Int32) then (
    (gR M2 16 1055 (some a0)).bind fun v7 =>
    (gB M2 122 v7 a6).bind fun v8 =>
    (rc M2 16 (some a0)).bind fun q9 =>
    (fX16_runOut fu q9 v8 M2).bind fun M10 =>
    fX16_passTo_L385 fu k2 a0 a1 s0 M10)
    else (
    (gR M2 16 1055 (some a0)).bind fun v3 =>
    (gB M2 122 v3 a6).bind fun v4 =>
    (rc M2 16 (some a0)).bind fun q5 =>
    (fX16_lifeEnds fu q5 v4 M2).bind fun M6 =>
    fX16_passTo_L385 fu k2 a0 a1 s0 M6))))
def fX16_passTo_L278 (fu : Nat) (k2 : Nat → Int32 → Int32 → Mm → Option (Mm)) (k195 : Nat → Int32 → Int64 → Int32 → Int32 → Int32 → Mm → Option (Mm)) (a0 : Nat) (a1 : Int32) (a3 : Int64) (a5 : Int32) (a6 : Int32) (a7 : Int32)  (M : Mm) : Option (Mm) :=
    k195 a0 a1 a3 a5 a6 (a7 + (1 : Int32)) M
def fX16_passTo_L255 (fu : Nat) (k2 : Nat → Int32 → Int32 → Mm → Option (Mm)) (k195 : Nat → Int32 → Int64 → Int32 → Int32 → Int32 → Mm → Option (Mm)) (a0 : Nat) (a1 : Int32) (a3 : Int64) (a5 : Int32) (a6 : Int32) (a7 : Int32) (a8 : Option Nat)  (M : Mm) : Option (Mm) :=
    b2 (fX16_life fu  a8 M) fun v2 M1 =>
    if 0 ≤ (lg_cmp v2 a3) then (
    fX16_passTo_L278 fu k2 k195 a0 a1 a3 a5 a6 a7 M1)
    else (
    b2 (fX16_life fu  a8 M1) fun v4 M3 =>
    fX16_passTo_L278 fu k2 k195 a0 a1 v4 (3 : Int32) a7 a7 M3)
def fX16_passTo_L195 (fu : Nat) (k2 : Nat → Int32 → Int32 → Mm → Option (Mm)) : Nat → Nat → Int32 → Int64 → Int32 → Int32 → Int32 → Mm → Option (Mm)
  | 0, _, _, _, _, _, _, _ => none
  | n + 1, a0, a1, a3, a5, a6, a7, M =>
    if (16 : Int32) ≤ a7 then (
    if 0 < (lg_cmp a3 (Int32.toInt64 a1)) then (
    fX16_passTo_L296 fu k2 a0 a1 a3 a5 a6 (0 : Int32) M)
    else (
    fX16_passTo_L296 fu k2 a0 a1 a3 a5 a6 (1 : Int32) M))
    else (
    (gR M 16 1055 (some a0)).bind fun v1 =>
    (gB M 122 v1 a7).bind fun v2 =>
    (gI M 12 768 v2).bind fun v3 =>
    if v3 = 0 then (
    fX16_passTo_L278 fu k2 (fun b0 b1 b3 b5 b6 b7 M => fX16_passTo_L195 fu k2 n b0 b1 b3 b5 b6 b7 M) a0 a1 a3 a5 a6 a7 M)
    else (
    (gI M 12 789 v2).bind fun v4 =>
    if v4 = 0 then (
    fX16_passTo_L255 fu k2 (fun b0 b1 b3 b5 b6 b7 M => fX16_passTo_L195 fu k2 n b0 b1 b3 b5 b6 b7 M) a0 a1 a3 a5 a6 a7 v2 M)
    else (
    (gI M 12 790 v2).bind fun v5 =>
    if 0 ≤ (lg_cmp (Int32.toInt64 v5) a3) then (
    fX16_passTo_L255 fu k2 (fun b0 b1 b3 b5 b6 b7 M => fX16_passTo_L195 fu k2 n b0 b1 b3 b5 b6 b7 M) a0 a1 a3 a5 a6 a7 v2 M)
    else (
    (gI M 12 790 v2).bind fun v6 =>
    fX16_passTo_L255 fu k2 (fun b0 b1 b3 b5 b6 b7 M => fX16_passTo_L195 fu k2 n b0 b1 b3 b5 b6 b7 M) a0 a1 (Int32.toInt64 v6) (2 : Int32) a7 a7 v2 M))))
def fX16_passTo_L186 (fu : Nat) (k2 : Nat → Int32 → Int32 → Mm → Option (Mm)) (k103 : Nat → Int32 → Int64 → Int32 → Int32 → Int32 → Mm → Option (Mm)) (a0 : Nat) (a1 : Int32) (a3 : Int64) (a5 : Int32) (a6 : Int32) (a7 : Int32)  (M : Mm) : Option (Mm) :=
    k103 a0 a1 a3 a5 a6 (a7 + (1 : Int32)) M
def fX16_passTo_L176 (fu : Nat) (k2 : Nat → Int32 → Int32 → Mm → Option (Mm)) (k103 : Nat → Int32 → Int64 → Int32 → Int32 → Int32 → Mm → Option (Mm)) (a0 : Nat) (a1 : Int32) (a7 : Int32) (a9 : Int64)  (M : Mm) : Option (Mm) :=
    fX16_passTo_L186 fu k2 k103 a0 a1 a9 (1 : Int32) a7 a7 M
def fX16_passTo_L103 (fu : Nat) (k2 : Nat → Int32 → Int32 → Mm → Option (Mm)) : Nat → Nat → Int32 → Int64 → Int32 → Int32 → Int32 → Mm → Option (Mm)
  | 0, _, _, _, _, _, _, _ => none
  | n + 1, a0, a1, a3, a5, a6, a7, M =>
    if (4 : Int32) ≤ a7 then (
    fX16_passTo_L195 fu k2 fu a0 a1 a3 a5 a6 (0 : Int32) M)
    else (
    (gR M 16 1052 (some a0)).bind fun v1 =>
    (gB M 123 v1 a7).bind fun v2 =>
    (gI M 13 837 v2).bind fun v3 =>
    (gI M 13 832 v2).bind fun v4 =>
    if v4 = 0 then (
    fX16_passTo_L186 fu k2 (fun b0 b1 b3 b5 b6 b7 M => fX16_passTo_L103 fu k2 n b0 b1 b3 b5 b6 b7 M) a0 a1 a3 a5 a6 a7 M)
    else (
    if (lg_cmp ((Int32.toInt64 v3) + (15000 : Int64)) a3) < 0 then (
    fX16_passTo_L176 fu k2 (fun b0 b1 b3 b5 b6 b7 M => fX16_passTo_L103 fu k2 n b0 b1 b3 b5 b6 b7 M) a0 a1 a7 ((Int32.toInt64 v3) + (15000 : Int64)) M)
    else (
    if (lg_cmp ((Int32.toInt64 v3) + (15000 : Int64)) a3) = 0 then (
    if a5 = (1 : Int32) then (
    (gI M 13 838 v2).bind fun v5 =>
    (gR M 16 1052 (some a0)).bind fun v6 =>
    (gB M 123 v6 a6).bind fun v7 =>
    (gI M 13 838 v7).bind fun v8 =>
    if v8 ≤ v5 then (
    fX16_passTo_L186 fu k2 (fun b0 b1 b3 b5 b6 b7 M => fX16_passTo_L103 fu k2 n b0 b1 b3 b5 b6 b7 M) a0 a1 a3 a5 a6 a7 M)
    else (
    fX16_passTo_L176 fu k2 (fun b0 b1 b3 b5 b6 b7 M => fX16_passTo_L103 fu k2 n b0 b1 b3 b5 b6 b7 M) a0 a1 a7 ((Int32.toInt64 v3) + (15000 : Int64)) M))
    else (
    fX16_passTo_L186 fu k2 (fun b0 b1 b3 b5 b6 b7 M => fX16_passTo_L103 fu k2 n b0 b1 b3 b5 b6 b7 M) a0 a1 a3 a5 a6 a7 M))
    else (
    fX16_passTo_L186 fu k2 (fun b0 b1 b3 b5 b6 b7 M => fX16_passTo_L103 fu k2 n b0 b1 b3 b5 b6 b7 M) a0 a1 a3 a5 a6 a7 M))))
def fX16_passTo_L94 (fu : Nat) (k2 : Nat → Int32 → Int32 → Mm → Option (Mm)) (k19 : Nat → Int32 → Int64 → Int32 → Int32 → Int32 → Mm → Option (Mm)) (a0 : Nat) (a1 : Int32) (a3 : Int64) (a5 : Int32) (a6 : Int32) (a7 : Int32)  (M : Mm) : Option (Mm) :=
    k19 a0 a1 a3 a5 a6 (a7 + (1 : Int32)) M
def fX16_passTo_L81 (fu : Nat) (k2 : Nat → Int32 → Int32 → Mm → Option (Mm)) (k19 : Nat → Int32 → Int64 → Int32 → Int32 → Int32 → Mm → Option (Mm)) (a0 : Nat) (a1 : Int32) (a7 : Int32) (a8 : Option Nat)  (M : Mm) : Option (Mm) :=
    b2 (fX16_askDue fu  a8 M) fun v2 M1 =>
    fX16_passTo_L94 fu k2 k19 a0 a1 v2 (0 : Int32) a7 a7 M1
def fX16_passTo_L19 (fu : Nat) (k2 : Nat → Int32 → Int32 → Mm → Option (Mm)) : Nat → Nat → Int32 → Int64 → Int32 → Int32 → Int32 → Mm → Option (Mm)
  | 0, _, _, _, _, _, _, _ => none
  | n + 1, a0, a1, a3, a5, a6, a7, M =>
    if (8 : Int32) ≤ a7 then (
    fX16_passTo_L103 fu k2 fu a0 a1 a3 a5 a6 (0 : Int32) M)
    else (
    (gR M 16 1051 (some a0)).bind fun v1 =>
    (gB M 125 v1 a7).bind fun v2 =>
    (gI M 15 960 v2).bind fun v3 =>
    if v3 = 0 then (
    fX16_passTo_L94 fu k2 (fun b0 b1 b3 b5 b6 b7 M => fX16_passTo_L19 fu k2 n b0 b1 b3 b5 b6 b7 M) a0 a1 a3 a5 a6 a7 M)
    else (
    b2 (fX16_askDue fu  v2 M) fun v5 M4 =>
    if (lg_cmp v5 a3) < 0 then (
    fX16_passTo_L81 fu k2 (fun b0 b1 b3 b5 b6 b7 M => fX16_passTo_L19 fu k2 n b0 b1 b3 b5 b6 b7 M) a0 a1 a7 v2 M4)
    else (
    b2 (fX16_askDue fu  v2 M4) fun v7 M6 =>
    if (lg_cmp v7 a3) = 0 then (
    (gI M6 15 965 v2).bind fun v8 =>
    (gR M6 16 1051 (some a0)).bind fun v9 =>
    (gB M6 125 v9 a6).bind fun v10 =>
    (gI M6 15 965 v10).bind fun v11 =>
    if v11 ≤ v8 then (
    fX16_passTo_L94 fu k2 (fun b0 b1 b3 b5 b6 b7 M => fX16_passTo_L19 fu k2 n b0 b1 b3 b5 b6 b7 M) a0 a1 a3 a5 a6 a7 M6)
    else (
    fX16_passTo_L81 fu k2 (fun b0 b1 b3 b5 b6 b7 M => fX16_passTo_L19 fu k2 n b0 b1 b3 b5 b6 b7 M) a0 a1 a7 v2 M6))
    else (
    fX16_passTo_L94 fu k2 (fun b0 b1 b3 b5 b6 b7 M => fX16_passTo_L19 fu k2 n b0 b1 b3 b5 b6 b7 M) a0 a1 a3 a5 a6 a7 M6))))
def fX16_passTo_L2 (fu : Nat)  : Nat → Nat → Int32 → Int32 → Mm → Option (Mm)
  | 0, _, _, _, _ => none
  | n + 1, a0, a1, a2, M =>
    if a2 = 0 then (
    (pF M 16 1034 (some a0) a1).bind fun M1 =>
    some M1)
    else (
    fX16_passTo_L19 fu (fun b0 b1 b2 M => fX16_passTo_L2 fu  n b0 b1 b2 M) fu a0 a1 (9223372036854775807 : Int64) (-1 : Int32) (0 : Int32) (0 : Int32) M)
def fX16_passTo (fu : Nat)  (a0 : Nat) (a1 : Int32)  (M : Mm) : Option (Mm) :=
    fX16_passTo_L2 fu  fu a0 a1 (1 : Int32) M
theorem dX16_passTo_0 : decode cX16_passTo 0 = .ok (.iconst 1, 1) := by decide +kernel
theorem dX16_passTo_1 : decode cX16_passTo 1 = .ok (.istore_n 2, 1) := by decide +kernel
theorem dX16_passTo_2 : decode cX16_passTo 2 = .ok (.iload_n 2, 1) := by decide +kernel
theorem dX16_passTo_3 : decode cX16_passTo 3 = .ok (.ifCond .eq 385, 3) := by decide +kernel
theorem dX16_passTo_6 : decode cX16_passTo 6 = .ok (.ldc2_w 573, 3) := by decide +kernel
theorem dX16_passTo_9 : decode cX16_passTo 9 = .ok (.lstore_n 3, 1) := by decide +kernel
theorem dX16_passTo_10 : decode cX16_passTo 10 = .ok (.iconst (-1), 1) := by decide +kernel
theorem dX16_passTo_11 : decode cX16_passTo 11 = .ok (.istore 5, 2) := by decide +kernel
theorem dX16_passTo_13 : decode cX16_passTo 13 = .ok (.iconst 0, 1) := by decide +kernel
theorem dX16_passTo_14 : decode cX16_passTo 14 = .ok (.istore 6, 2) := by decide +kernel
theorem dX16_passTo_16 : decode cX16_passTo 16 = .ok (.iconst 0, 1) := by decide +kernel
theorem dX16_passTo_17 : decode cX16_passTo 17 = .ok (.istore 7, 2) := by decide +kernel
theorem dX16_passTo_19 : decode cX16_passTo 19 = .ok (.iload 7, 2) := by decide +kernel
theorem dX16_passTo_21 : decode cX16_passTo 21 = .ok (.bipush 8, 2) := by decide +kernel
theorem dX16_passTo_23 : decode cX16_passTo 23 = .ok (.if_icmp .ge 77, 3) := by decide +kernel
theorem dX16_passTo_26 : decode cX16_passTo 26 = .ok (.aload_n 0, 1) := by decide +kernel
theorem dX16_passTo_27 : decode cX16_passTo 27 = .ok (.getfield 55, 3) := by decide +kernel
theorem dX16_passTo_30 : decode cX16_passTo 30 = .ok (.iload 7, 2) := by decide +kernel
theorem dX16_passTo_32 : decode cX16_passTo 32 = .ok (.aaload, 1) := by decide +kernel
theorem dX16_passTo_33 : decode cX16_passTo 33 = .ok (.astore 8, 2) := by decide +kernel
theorem dX16_passTo_35 : decode cX16_passTo 35 = .ok (.aload 8, 2) := by decide +kernel
theorem dX16_passTo_37 : decode cX16_passTo 37 = .ok (.getfield 158, 3) := by decide +kernel
theorem dX16_passTo_40 : decode cX16_passTo 40 = .ok (.ifCond .eq 54, 3) := by decide +kernel
theorem dX16_passTo_43 : decode cX16_passTo 43 = .ok (.aload 8, 2) := by decide +kernel
theorem dX16_passTo_45 : decode cX16_passTo 45 = .ok (.invokestatic 575, 3) := by decide +kernel
theorem dX16_passTo_48 : decode cX16_passTo 48 = .ok (.lload_n 3, 1) := by decide +kernel
theorem dX16_passTo_49 : decode cX16_passTo 49 = .ok (.lcmp, 1) := by decide +kernel
theorem dX16_passTo_50 : decode cX16_passTo 50 = .ok (.ifCond .lt 31, 3) := by decide +kernel
theorem dX16_passTo_53 : decode cX16_passTo 53 = .ok (.aload 8, 2) := by decide +kernel
theorem dX16_passTo_55 : decode cX16_passTo 55 = .ok (.invokestatic 575, 3) := by decide +kernel
theorem dX16_passTo_58 : decode cX16_passTo 58 = .ok (.lload_n 3, 1) := by decide +kernel
theorem dX16_passTo_59 : decode cX16_passTo 59 = .ok (.lcmp, 1) := by decide +kernel
theorem dX16_passTo_60 : decode cX16_passTo 60 = .ok (.ifCond .ne 34, 3) := by decide +kernel
theorem dX16_passTo_63 : decode cX16_passTo 63 = .ok (.aload 8, 2) := by decide +kernel
theorem dX16_passTo_65 : decode cX16_passTo 65 = .ok (.getfield 236, 3) := by decide +kernel
theorem dX16_passTo_68 : decode cX16_passTo 68 = .ok (.aload_n 0, 1) := by decide +kernel
theorem dX16_passTo_69 : decode cX16_passTo 69 = .ok (.getfield 55, 3) := by decide +kernel
theorem dX16_passTo_72 : decode cX16_passTo 72 = .ok (.iload 6, 2) := by decide +kernel
theorem dX16_passTo_74 : decode cX16_passTo 74 = .ok (.aaload, 1) := by decide +kernel
theorem dX16_passTo_75 : decode cX16_passTo 75 = .ok (.getfield 236, 3) := by decide +kernel
theorem dX16_passTo_78 : decode cX16_passTo 78 = .ok (.if_icmp .ge 16, 3) := by decide +kernel
theorem dX16_passTo_81 : decode cX16_passTo 81 = .ok (.aload 8, 2) := by decide +kernel
theorem dX16_passTo_83 : decode cX16_passTo 83 = .ok (.invokestatic 575, 3) := by decide +kernel
theorem dX16_passTo_86 : decode cX16_passTo 86 = .ok (.lstore_n 3, 1) := by decide +kernel
theorem dX16_passTo_87 : decode cX16_passTo 87 = .ok (.iconst 0, 1) := by decide +kernel
theorem dX16_passTo_88 : decode cX16_passTo 88 = .ok (.istore 5, 2) := by decide +kernel
theorem dX16_passTo_90 : decode cX16_passTo 90 = .ok (.iload 7, 2) := by decide +kernel
theorem dX16_passTo_92 : decode cX16_passTo 92 = .ok (.istore 6, 2) := by decide +kernel
theorem dX16_passTo_94 : decode cX16_passTo 94 = .ok (.iinc 7 1, 3) := by decide +kernel
theorem dX16_passTo_97 : decode cX16_passTo 97 = .ok (.goto (-78), 3) := by decide +kernel
theorem dX16_passTo_100 : decode cX16_passTo 100 = .ok (.iconst 0, 1) := by decide +kernel
theorem dX16_passTo_101 : decode cX16_passTo 101 = .ok (.istore 7, 2) := by decide +kernel
theorem dX16_passTo_103 : decode cX16_passTo 103 = .ok (.iload 7, 2) := by decide +kernel
theorem dX16_passTo_105 : decode cX16_passTo 105 = .ok (.iconst 4, 1) := by decide +kernel
theorem dX16_passTo_106 : decode cX16_passTo 106 = .ok (.if_icmp .ge 86, 3) := by decide +kernel
theorem dX16_passTo_109 : decode cX16_passTo 109 = .ok (.aload_n 0, 1) := by decide +kernel
theorem dX16_passTo_110 : decode cX16_passTo 110 = .ok (.getfield 61, 3) := by decide +kernel
theorem dX16_passTo_113 : decode cX16_passTo 113 = .ok (.iload 7, 2) := by decide +kernel
theorem dX16_passTo_115 : decode cX16_passTo 115 = .ok (.aaload, 1) := by decide +kernel
theorem dX16_passTo_116 : decode cX16_passTo 116 = .ok (.astore 8, 2) := by decide +kernel
theorem dX16_passTo_118 : decode cX16_passTo 118 = .ok (.aload 8, 2) := by decide +kernel
theorem dX16_passTo_120 : decode cX16_passTo 120 = .ok (.getfield 259, 3) := by decide +kernel
theorem dX16_passTo_123 : decode cX16_passTo 123 = .ok (.i2l, 1) := by decide +kernel
theorem dX16_passTo_124 : decode cX16_passTo 124 = .ok (.ldc2_w 579, 3) := by decide +kernel
theorem dX16_passTo_127 : decode cX16_passTo 127 = .ok (.ladd, 1) := by decide +kernel
theorem dX16_passTo_128 : decode cX16_passTo 128 = .ok (.lstore 9, 2) := by decide +kernel
theorem dX16_passTo_130 : decode cX16_passTo 130 = .ok (.aload 8, 2) := by decide +kernel
theorem dX16_passTo_132 : decode cX16_passTo 132 = .ok (.getfield 159, 3) := by decide +kernel
theorem dX16_passTo_135 : decode cX16_passTo 135 = .ok (.ifCond .eq 51, 3) := by decide +kernel
theorem dX16_passTo_138 : decode cX16_passTo 138 = .ok (.lload 9, 2) := by decide +kernel
theorem dX16_passTo_140 : decode cX16_passTo 140 = .ok (.lload_n 3, 1) := by decide +kernel
theorem dX16_passTo_141 : decode cX16_passTo 141 = .ok (.lcmp, 1) := by decide +kernel
theorem dX16_passTo_142 : decode cX16_passTo 142 = .ok (.ifCond .lt 34, 3) := by decide +kernel
theorem dX16_passTo_145 : decode cX16_passTo 145 = .ok (.lload 9, 2) := by decide +kernel
theorem dX16_passTo_147 : decode cX16_passTo 147 = .ok (.lload_n 3, 1) := by decide +kernel
theorem dX16_passTo_148 : decode cX16_passTo 148 = .ok (.lcmp, 1) := by decide +kernel
theorem dX16_passTo_149 : decode cX16_passTo 149 = .ok (.ifCond .ne 37, 3) := by decide +kernel
theorem dX16_passTo_152 : decode cX16_passTo 152 = .ok (.iload 5, 2) := by decide +kernel
theorem dX16_passTo_154 : decode cX16_passTo 154 = .ok (.iconst 1, 1) := by decide +kernel
theorem dX16_passTo_155 : decode cX16_passTo 155 = .ok (.if_icmp .ne 31, 3) := by decide +kernel
theorem dX16_passTo_158 : decode cX16_passTo 158 = .ok (.aload 8, 2) := by decide +kernel
theorem dX16_passTo_160 : decode cX16_passTo 160 = .ok (.getfield 262, 3) := by decide +kernel
theorem dX16_passTo_163 : decode cX16_passTo 163 = .ok (.aload_n 0, 1) := by decide +kernel
theorem dX16_passTo_164 : decode cX16_passTo 164 = .ok (.getfield 61, 3) := by decide +kernel
theorem dX16_passTo_167 : decode cX16_passTo 167 = .ok (.iload 6, 2) := by decide +kernel
theorem dX16_passTo_169 : decode cX16_passTo 169 = .ok (.aaload, 1) := by decide +kernel
theorem dX16_passTo_170 : decode cX16_passTo 170 = .ok (.getfield 262, 3) := by decide +kernel
theorem dX16_passTo_173 : decode cX16_passTo 173 = .ok (.if_icmp .ge 13, 3) := by decide +kernel
theorem dX16_passTo_176 : decode cX16_passTo 176 = .ok (.lload 9, 2) := by decide +kernel
theorem dX16_passTo_178 : decode cX16_passTo 178 = .ok (.lstore_n 3, 1) := by decide +kernel
theorem dX16_passTo_179 : decode cX16_passTo 179 = .ok (.iconst 1, 1) := by decide +kernel
theorem dX16_passTo_180 : decode cX16_passTo 180 = .ok (.istore 5, 2) := by decide +kernel
theorem dX16_passTo_182 : decode cX16_passTo 182 = .ok (.iload 7, 2) := by decide +kernel
theorem dX16_passTo_184 : decode cX16_passTo 184 = .ok (.istore 6, 2) := by decide +kernel
theorem dX16_passTo_186 : decode cX16_passTo 186 = .ok (.iinc 7 1, 3) := by decide +kernel
theorem dX16_passTo_189 : decode cX16_passTo 189 = .ok (.goto (-86), 3) := by decide +kernel
theorem dX16_passTo_192 : decode cX16_passTo 192 = .ok (.iconst 0, 1) := by decide +kernel
theorem dX16_passTo_193 : decode cX16_passTo 193 = .ok (.istore 7, 2) := by decide +kernel
theorem dX16_passTo_195 : decode cX16_passTo 195 = .ok (.iload 7, 2) := by decide +kernel
theorem dX16_passTo_197 : decode cX16_passTo 197 = .ok (.bipush 16, 2) := by decide +kernel
theorem dX16_passTo_199 : decode cX16_passTo 199 = .ok (.if_icmp .ge 85, 3) := by decide +kernel
theorem dX16_passTo_202 : decode cX16_passTo 202 = .ok (.aload_n 0, 1) := by decide +kernel
theorem dX16_passTo_203 : decode cX16_passTo 203 = .ok (.getfield 70, 3) := by decide +kernel
theorem dX16_passTo_206 : decode cX16_passTo 206 = .ok (.iload 7, 2) := by decide +kernel
theorem dX16_passTo_208 : decode cX16_passTo 208 = .ok (.aaload, 1) := by decide +kernel
theorem dX16_passTo_209 : decode cX16_passTo 209 = .ok (.astore 8, 2) := by decide +kernel
theorem dX16_passTo_211 : decode cX16_passTo 211 = .ok (.aload 8, 2) := by decide +kernel
theorem dX16_passTo_213 : decode cX16_passTo 213 = .ok (.getfield 152, 3) := by decide +kernel
theorem dX16_passTo_216 : decode cX16_passTo 216 = .ok (.ifCond .ne 6, 3) := by decide +kernel
theorem dX16_passTo_219 : decode cX16_passTo 219 = .ok (.goto 59, 3) := by decide +kernel
theorem dX16_passTo_222 : decode cX16_passTo 222 = .ok (.aload 8, 2) := by decide +kernel
theorem dX16_passTo_224 : decode cX16_passTo 224 = .ok (.getfield 376, 3) := by decide +kernel
theorem dX16_passTo_227 : decode cX16_passTo 227 = .ok (.ifCond .eq 28, 3) := by decide +kernel
theorem dX16_passTo_230 : decode cX16_passTo 230 = .ok (.aload 8, 2) := by decide +kernel
theorem dX16_passTo_232 : decode cX16_passTo 232 = .ok (.getfield 385, 3) := by decide +kernel
theorem dX16_passTo_235 : decode cX16_passTo 235 = .ok (.i2l, 1) := by decide +kernel
theorem dX16_passTo_236 : decode cX16_passTo 236 = .ok (.lload_n 3, 1) := by decide +kernel
theorem dX16_passTo_237 : decode cX16_passTo 237 = .ok (.lcmp, 1) := by decide +kernel
theorem dX16_passTo_238 : decode cX16_passTo 238 = .ok (.ifCond .ge 17, 3) := by decide +kernel
theorem dX16_passTo_241 : decode cX16_passTo 241 = .ok (.aload 8, 2) := by decide +kernel
theorem dX16_passTo_243 : decode cX16_passTo 243 = .ok (.getfield 385, 3) := by decide +kernel
theorem dX16_passTo_246 : decode cX16_passTo 246 = .ok (.i2l, 1) := by decide +kernel
theorem dX16_passTo_247 : decode cX16_passTo 247 = .ok (.lstore_n 3, 1) := by decide +kernel
theorem dX16_passTo_248 : decode cX16_passTo 248 = .ok (.iconst 2, 1) := by decide +kernel
theorem dX16_passTo_249 : decode cX16_passTo 249 = .ok (.istore 5, 2) := by decide +kernel
theorem dX16_passTo_251 : decode cX16_passTo 251 = .ok (.iload 7, 2) := by decide +kernel
theorem dX16_passTo_253 : decode cX16_passTo 253 = .ok (.istore 6, 2) := by decide +kernel
theorem dX16_passTo_255 : decode cX16_passTo 255 = .ok (.aload 8, 2) := by decide +kernel
theorem dX16_passTo_257 : decode cX16_passTo 257 = .ok (.invokestatic 581, 3) := by decide +kernel
theorem dX16_passTo_260 : decode cX16_passTo 260 = .ok (.lload_n 3, 1) := by decide +kernel
theorem dX16_passTo_261 : decode cX16_passTo 261 = .ok (.lcmp, 1) := by decide +kernel
theorem dX16_passTo_262 : decode cX16_passTo 262 = .ok (.ifCond .ge 16, 3) := by decide +kernel
theorem dX16_passTo_265 : decode cX16_passTo 265 = .ok (.aload 8, 2) := by decide +kernel
theorem dX16_passTo_267 : decode cX16_passTo 267 = .ok (.invokestatic 581, 3) := by decide +kernel
theorem dX16_passTo_270 : decode cX16_passTo 270 = .ok (.lstore_n 3, 1) := by decide +kernel
theorem dX16_passTo_271 : decode cX16_passTo 271 = .ok (.iconst 3, 1) := by decide +kernel
theorem dX16_passTo_272 : decode cX16_passTo 272 = .ok (.istore 5, 2) := by decide +kernel
theorem dX16_passTo_274 : decode cX16_passTo 274 = .ok (.iload 7, 2) := by decide +kernel
theorem dX16_passTo_276 : decode cX16_passTo 276 = .ok (.istore 6, 2) := by decide +kernel
theorem dX16_passTo_278 : decode cX16_passTo 278 = .ok (.iinc 7 1, 3) := by decide +kernel
theorem dX16_passTo_281 : decode cX16_passTo 281 = .ok (.goto (-86), 3) := by decide +kernel
theorem dX16_passTo_284 : decode cX16_passTo 284 = .ok (.lload_n 3, 1) := by decide +kernel
theorem dX16_passTo_285 : decode cX16_passTo 285 = .ok (.iload_n 1, 1) := by decide +kernel
theorem dX16_passTo_286 : decode cX16_passTo 286 = .ok (.i2l, 1) := by decide +kernel
theorem dX16_passTo_287 : decode cX16_passTo 287 = .ok (.lcmp, 1) := by decide +kernel
theorem dX16_passTo_288 : decode cX16_passTo 288 = .ok (.ifCond .gt 7, 3) := by decide +kernel
theorem dX16_passTo_291 : decode cX16_passTo 291 = .ok (.iconst 1, 1) := by decide +kernel
theorem dX16_passTo_292 : decode cX16_passTo 292 = .ok (.goto 4, 3) := by decide +kernel
theorem dX16_passTo_295 : decode cX16_passTo 295 = .ok (.iconst 0, 1) := by decide +kernel
theorem dX16_passTo_296 : decode cX16_passTo 296 = .ok (.istore_n 2, 1) := by decide +kernel
theorem dX16_passTo_297 : decode cX16_passTo 297 = .ok (.iload_n 2, 1) := by decide +kernel
theorem dX16_passTo_298 : decode cX16_passTo 298 = .ok (.ifCond .eq 87, 3) := by decide +kernel
theorem dX16_passTo_301 : decode cX16_passTo 301 = .ok (.aload_n 0, 1) := by decide +kernel
theorem dX16_passTo_302 : decode cX16_passTo 302 = .ok (.aload_n 0, 1) := by decide +kernel
theorem dX16_passTo_303 : decode cX16_passTo 303 = .ok (.getfield 134, 3) := by decide +kernel
theorem dX16_passTo_306 : decode cX16_passTo 306 = .ok (.i2l, 1) := by decide +kernel
theorem dX16_passTo_307 : decode cX16_passTo 307 = .ok (.lload_n 3, 1) := by decide +kernel
theorem dX16_passTo_308 : decode cX16_passTo 308 = .ok (.invokestatic 548, 3) := by decide +kernel
theorem dX16_passTo_311 : decode cX16_passTo 311 = .ok (.l2i, 1) := by decide +kernel
theorem dX16_passTo_312 : decode cX16_passTo 312 = .ok (.putfield 134, 3) := by decide +kernel
theorem dX16_passTo_315 : decode cX16_passTo 315 = .ok (.iload 5, 2) := by decide +kernel
theorem dX16_passTo_317 : decode cX16_passTo 317 = .ok (.ifCond .ne 17, 3) := by decide +kernel
theorem dX16_passTo_320 : decode cX16_passTo 320 = .ok (.aload_n 0, 1) := by decide +kernel
theorem dX16_passTo_321 : decode cX16_passTo 321 = .ok (.aload_n 0, 1) := by decide +kernel
theorem dX16_passTo_322 : decode cX16_passTo 322 = .ok (.getfield 55, 3) := by decide +kernel
theorem dX16_passTo_325 : decode cX16_passTo 325 = .ok (.iload 6, 2) := by decide +kernel
theorem dX16_passTo_327 : decode cX16_passTo 327 = .ok (.aaload, 1) := by decide +kernel
theorem dX16_passTo_328 : decode cX16_passTo 328 = .ok (.invokevirtual 585, 3) := by decide +kernel
theorem dX16_passTo_331 : decode cX16_passTo 331 = .ok (.goto 54, 3) := by decide +kernel
theorem dX16_passTo_334 : decode cX16_passTo 334 = .ok (.iload 5, 2) := by decide +kernel
theorem dX16_passTo_336 : decode cX16_passTo 336 = .ok (.iconst 1, 1) := by decide +kernel
theorem dX16_passTo_337 : decode cX16_passTo 337 = .ok (.if_icmp .ne 17, 3) := by decide +kernel
theorem dX16_passTo_340 : decode cX16_passTo 340 = .ok (.aload_n 0, 1) := by decide +kernel
theorem dX16_passTo_341 : decode cX16_passTo 341 = .ok (.getfield 61, 3) := by decide +kernel
theorem dX16_passTo_344 : decode cX16_passTo 344 = .ok (.iload 6, 2) := by decide +kernel
theorem dX16_passTo_346 : decode cX16_passTo 346 = .ok (.aaload, 1) := by decide +kernel
theorem dX16_passTo_347 : decode cX16_passTo 347 = .ok (.iconst 0, 1) := by decide +kernel
theorem dX16_passTo_348 : decode cX16_passTo 348 = .ok (.putfield 159, 3) := by decide +kernel
theorem dX16_passTo_351 : decode cX16_passTo 351 = .ok (.goto 34, 3) := by decide +kernel
theorem dX16_passTo_354 : decode cX16_passTo 354 = .ok (.iload 5, 2) := by decide +kernel
theorem dX16_passTo_356 : decode cX16_passTo 356 = .ok (.iconst 2, 1) := by decide +kernel
theorem dX16_passTo_357 : decode cX16_passTo 357 = .ok (.if_icmp .ne 17, 3) := by decide +kernel
theorem dX16_passTo_360 : decode cX16_passTo 360 = .ok (.aload_n 0, 1) := by decide +kernel
theorem dX16_passTo_361 : decode cX16_passTo 361 = .ok (.aload_n 0, 1) := by decide +kernel
theorem dX16_passTo_362 : decode cX16_passTo 362 = .ok (.getfield 70, 3) := by decide +kernel
theorem dX16_passTo_365 : decode cX16_passTo 365 = .ok (.iload 6, 2) := by decide +kernel
theorem dX16_passTo_367 : decode cX16_passTo 367 = .ok (.aaload, 1) := by decide +kernel
theorem dX16_passTo_368 : decode cX16_passTo 368 = .ok (.invokevirtual 589, 3) := by decide +kernel
theorem dX16_passTo_371 : decode cX16_passTo 371 = .ok (.goto 14, 3) := by decide +kernel
theorem dX16_passTo_374 : decode cX16_passTo 374 = .ok (.aload_n 0, 1) := by decide +kernel
theorem dX16_passTo_375 : decode cX16_passTo 375 = .ok (.aload_n 0, 1) := by decide +kernel
theorem dX16_passTo_376 : decode cX16_passTo 376 = .ok (.getfield 70, 3) := by decide +kernel
theorem dX16_passTo_379 : decode cX16_passTo 379 = .ok (.iload 6, 2) := by decide +kernel
theorem dX16_passTo_381 : decode cX16_passTo 381 = .ok (.aaload, 1) := by decide +kernel
theorem dX16_passTo_382 : decode cX16_passTo 382 = .ok (.invokevirtual 592, 3) := by decide +kernel
theorem dX16_passTo_385 : decode cX16_passTo 385 = .ok (.goto (-383), 3) := by decide +kernel
theorem dX16_passTo_388 : decode cX16_passTo 388 = .ok (.aload_n 0, 1) := by decide +kernel
theorem dX16_passTo_389 : decode cX16_passTo 389 = .ok (.iload_n 1, 1) := by decide +kernel
theorem dX16_passTo_390 : decode cX16_passTo 390 = .ok (.putfield 134, 3) := by decide +kernel
theorem dX16_passTo_393 : decode cX16_passTo 393 = .ok (.return_, 1) := by decide +kernel
theorem wX16_passTo_L385 {x : GX} {n0 sl0 : Nat} (X : Cx x cX16_passTo RX16 none n0 sl0 10 254) {out : Mm} (hE : Ends x n0 sl0 none out) (hn : xn x = 11) (fu : Nat) (k2 : Nat → Int32 → Int32 → Mm → Option (Mm)) (hk2 : ∀ (b0 : Nat) (b1 : Int32) (b2 : Int32)  (M : Mm), k2 b0 b1 b2 M = some out → Gw x M 2 [(0, pR (some b0)), (1, pI b1), (2, pI b2)] []) (a0 : Nat) (a1 : Int32) (a2 : Int32)  (M : Mm) (h : fX16_passTo_L385 fu k2 a0 a1 a2 M = some out) : Gw x M 385 [(0, pR (some a0)), (1, pI a1), (2, pI a2)] [] := by
  unfold fX16_passTo_L385 at h
  refine g_goto X (pc := 385) (tgt := 2) dX16_passTo_385 (by decide) ?_
  exact hk2 a0 a1 a2 M h
theorem wX16_passTo_L296 {x : GX} {n0 sl0 : Nat} (X : Cx x cX16_passTo RX16 none n0 sl0 10 254) {out : Mm} (hE : Ends x n0 sl0 none out) (hn : xn x = 11) (fu : Nat) (k2 : Nat → Int32 → Int32 → Mm → Option (Mm)) (hk2 : ∀ (b0 : Nat) (b1 : Int32) (b2 : Int32)  (M : Mm), k2 b0 b1 b2 M = some out → Gw x M 2 [(0, pR (some b0)), (1, pI b1), (2, pI b2)] []) (a0 : Nat) (a1 : Int32) (a3 : Int64) (a5 : Int32) (a6 : Int32) (s0 : Int32) (M : Mm) (h : fX16_passTo_L296 fu k2 a0 a1 a3 a5 a6 s0 M = some out) : Gw x M 296 [(0, pR (some a0)), (1, pI a1), (3, pL a3), (5, pI a5), (6, pI a6)] [pI s0] := by
  unfold fX16_passTo_L296 at h
  refine g_istore_n X (pc := 296) [(2, pI s0), (0, pR (some a0)), (1, pI a1), (3, pL a3), (5, pI a5), (6, pI a6)] rfl (lt_n hn (by decide)) rfl dX16_passTo_296 ?_
  refine g_iload_n X (pc := 297) 0 rfl rfl dX16_passTo_297 ?_
  refine g_if_eq X (pc := 298) (tgt := 385) dX16_passTo_298 (by decide) (fun hc => ?_) (fun hc => ?_)
  · have h := (if_pos hc).symm.trans h
    refine g_sub [1, 2, 0] [(0, pR (some a0)), (1, pI a1), (2, pI s0)] rfl ?_
    exact wX16_passTo_L385 X hE hn fu k2 hk2 a0 a1 s0 M h
  · have h := (if_neg hc).symm.trans h
    refine g_aload_n X (pc := 301) 1 rfl rfl dX16_passTo_301 ?_
    refine g_aload_n X (pc := 302) 1 rfl rfl dX16_passTo_302 ?_
    obtain ⟨v1, ev1, h⟩ := bd h
    refine g_getI X (pc := 303) fk_16_10 rfl rfl ev1 tb_1824 dX16_passTo_303 ?_
    refine g_i2l X (pc := 306) dX16_passTo_306 ?_
    refine g_lload_n X (pc := 307) 3 rfl rfl dX16_passTo_307 ?_
    refine g_mmaxL X (pc := 308) tb_2076 tb_2077 tb_13 tb_2078 ⟨by decide, Nat.le_of_ble_eq_true rfl⟩ dX16_passTo_308 ?_
    refine g_l2i X (pc := 311) dX16_passTo_311 ?_
    obtain ⟨M2, eM2, h⟩ := bd h
    refine g_putI X (pc := 312) fk_16_10 rfl rfl rfl eM2 tb_1824 (Or.inl rfl) dX16_passTo_312 ?_
    refine g_iload X (pc := 315) 4 rfl dX16_passTo_315 ?_
    refine g_if_ne X (pc := 317) (tgt := 334) dX16_passTo_317 (by decide) (fun hc => ?_) (fun hc => ?_)
    · have h := (if_neg hc).symm.trans h
      refine g_iload X (pc := 334) 4 rfl dX16_passTo_334 ?_
      refine g_iconst X (pc := 336) (v := 1) dX16_passTo_336 (by decide) ?_
      refine g_icmp_ne X (pc := 337) (tgt := 354) dX16_passTo_337 (by decide) (fun hc => ?_) (fun hc => ?_)
      · have h := (if_neg hc).symm.trans h
        refine g_iload X (pc := 354) 4 rfl dX16_passTo_354 ?_
        refine g_iconst X (pc := 356) (v := 2) dX16_passTo_356 (by decide) ?_
        refine g_icmp_ne X (pc := 357) (tgt := 374) dX16_passTo_357 (by decide) (fun hc => ?_) (fun hc => ?_)
        · have h := (if_neg hc).symm.trans h
          refine g_aload_n X (pc := 374) 1 rfl rfl dX16_passTo_374 ?_
          refine g_aload_n X (pc := 375) 1 rfl rfl dX16_passTo_375 ?_
          obtain ⟨v3, ev3, h⟩ := bd h
          refine g_getR X (pc := 376) fk_16_31 rfl rfl ev3 tb_1845 dX16_passTo_376 ?_
          refine g_iload X (pc := 379) 5 rfl dX16_passTo_379 ?_
          obtain ⟨v4, ev4, h⟩ := bd h
          refine g_aaload X (pc := 381) (k := 9) rfl rfl (by decide) ev4 dX16_passTo_381 ?_
          obtain ⟨q5, eq5, h⟩ := bd h
          obtain ⟨M6, eM6, h⟩ := bd h
          refine g_callV X (pc := 382) (M' := M6) (ro := none) (c := 16) rfl (by decide) (as := [pR v4]) (as' := [pR v4]) (st := []) eq5 (ctX16_lifeEnds _ _ _ _ _ _ fu q5 v4 M2 _ eM6) tb_2194 tb_2191 tb_2193 ts_90 tb_8 ⟨rfl, hyX16_lifeEnds⟩ rfl rfl ⟨by decide, by decide⟩ (Nat.le_of_ble_eq_true rfl) dX16_passTo_382 ?_
          refine g_sub [1, 2, 0] [(0, pR (some a0)), (1, pI a1), (2, pI s0)] rfl ?_
          exact wX16_passTo_L385 X hE hn fu k2 hk2 a0 a1 s0 M6 h
        · have h := (if_pos hc).symm.trans h
          refine g_aload_n X (pc := 360) 1 rfl rfl dX16_passTo_360 ?_
          refine g_aload_n X (pc := 361) 1 rfl rfl dX16_passTo_361 ?_
          obtain ⟨v7, ev7, h⟩ := bd h
          refine g_getR X (pc := 362) fk_16_31 rfl rfl ev7 tb_1845 dX16_passTo_362 ?_
          refine g_iload X (pc := 365) 5 rfl dX16_passTo_365 ?_
          obtain ⟨v8, ev8, h⟩ := bd h
          refine g_aaload X (pc := 367) (k := 9) rfl rfl (by decide) ev8 dX16_passTo_367 ?_
          obtain ⟨q9, eq9, h⟩ := bd h
          obtain ⟨M10, eM10, h⟩ := bd h
          refine g_callV X (pc := 368) (M' := M10) (ro := none) (c := 16) rfl (by decide) (as := [pR v8]) (as' := [pR v8]) (st := []) eq9 (ctX16_runOut _ _ _ _ _ _ fu q9 v8 M2 _ eM10) tb_2104 tb_2101 tb_2103 ts_74 tb_8 ⟨rfl, hyX16_runOut⟩ rfl rfl ⟨by decide, by decide⟩ (Nat.le_of_ble_eq_true rfl) dX16_passTo_368 ?_
          refine g_goto X (pc := 371) (tgt := 385) dX16_passTo_371 (by decide) ?_
          refine g_sub [1, 2, 0] [(0, pR (some a0)), (1, pI a1), (2, pI s0)] rfl ?_
          exact wX16_passTo_L385 X hE hn fu k2 hk2 a0 a1 s0 M10 h
      · have h := (if_pos hc).symm.trans h
        refine g_aload_n X (pc := 340) 1 rfl rfl dX16_passTo_340 ?_
        obtain ⟨v11, ev11, h⟩ := bd h
        refine g_getR X (pc := 341) fk_16_28 rfl rfl ev11 tb_1842 dX16_passTo_341 ?_
        refine g_iload X (pc := 344) 5 rfl dX16_passTo_344 ?_
        obtain ⟨v12, ev12, h⟩ := bd h
        refine g_aaload X (pc := 346) (k := 8) rfl rfl (by decide) ev12 dX16_passTo_346 ?_
        refine g_iconst X (pc := 347) (v := 0) dX16_passTo_347 (by decide) ?_
        obtain ⟨M13, eM13, h⟩ := bd h
        refine g_putZ X (pc := 348) fk_13_0 rfl rfl rfl eM13 tb_1784 (Or.inl rfl) dX16_passTo_348 ?_
        refine g_goto X (pc := 351) (tgt := 385) dX16_passTo_351 (by decide) ?_
        refine g_sub [1, 2, 0] [(0, pR (some a0)), (1, pI a1), (2, pI s0)] rfl ?_
        exact wX16_passTo_L385 X hE hn fu k2 hk2 a0 a1 s0 M13 h
    · have h := (if_pos hc).symm.trans h
      refine g_aload_n X (pc := 320) 1 rfl rfl dX16_passTo_320 ?_
      refine g_aload_n X (pc := 321) 1 rfl rfl dX16_passTo_321 ?_
      obtain ⟨v14, ev14, h⟩ := bd h
      refine g_getR X (pc := 322) fk_16_27 rfl rfl ev14 tb_1841 dX16_passTo_322 ?_
      refine g_iload X (pc := 325) 5 rfl dX16_passTo_325 ?_
      obtain ⟨v15, ev15, h⟩ := bd h
      refine g_aaload X (pc := 327) (k := 7) rfl rfl (by decide) ev15 dX16_passTo_327 ?_
      obtain ⟨q16, eq16, h⟩ := bd h
      obtain ⟨M17, eM17, h⟩ := bd h
      refine g_callV X (pc := 328) (M' := M17) (ro := none) (c := 16) rfl (by decide) (as := [pR v15]) (as' := [pR v15]) (st := []) eq16 (ctX16_askAgain _ _ _ _ _ _ fu q16 v15 M2 _ eM17) tb_2082 tb_2079 tb_2081 ts_69 tb_8 ⟨rfl, hyX16_askAgain⟩ rfl rfl ⟨by decide, by decide⟩ (Nat.le_of_ble_eq_true rfl) dX16_passTo_328 ?_
      refine g_goto X (pc := 331) (tgt := 385) dX16_passTo_331 (by decide) ?_
      refine g_sub [1, 2, 0] [(0, pR (some a0)), (1, pI a1), (2, pI s0)] rfl ?_
      exact wX16_passTo_L385 X hE hn fu k2 hk2 a0 a1 s0 M17 h
theorem wX16_passTo_L278 {x : GX} {n0 sl0 : Nat} (X : Cx x cX16_passTo RX16 none n0 sl0 10 254) {out : Mm} (hE : Ends x n0 sl0 none out) (hn : xn x = 11) (fu : Nat) (k2 : Nat → Int32 → Int32 → Mm → Option (Mm)) (k195 : Nat → Int32 → Int64 → Int32 → Int32 → Int32 → Mm → Option (Mm)) (hk2 : ∀ (b0 : Nat) (b1 : Int32) (b2 : Int32)  (M : Mm), k2 b0 b1 b2 M = some out → Gw x M 2 [(0, pR (some b0)), (1, pI b1), (2, pI b2)] []) (hk195 : ∀ (b0 : Nat) (b1 : Int32) (b3 : Int64) (b5 : Int32) (b6 : Int32) (b7 : Int32)  (M : Mm), k195 b0 b1 b3 b5 b6 b7 M = some out → Gw x M 195 [(0, pR (some b0)), (1, pI b1), (3, pL b3), (5, pI b5), (6, pI b6), (7, pI b7)] []) (a0 : Nat) (a1 : Int32) (a3 : Int64) (a5 : Int32) (a6 : Int32) (a7 : Int32)  (M : Mm) (h : fX16_passTo_L278 fu k2 k195 a0 a1 a3 a5 a6 a7 M = some out) : Gw x M 278 [(0, pR (some a0)), (1, pI a1), (3, pL a3), (5, pI a5), (6, pI a6), (7, pI a7)] [] := by
  unfold fX16_passTo_L278 at h
  refine g_iinc X (pc := 278) 5 [(7, pI (a7 + (1 : Int32))), (0, pR (some a0)), (1, pI a1), (3, pL a3), (5, pI a5), (6, pI a6)] rfl (iinc_e (by decide)) (lt_n hn (by decide)) rfl dX16_passTo_278 ?_
  refine g_goto X (pc := 281) (tgt := 195) dX16_passTo_281 (by decide) ?_
  refine g_sub [1, 2, 3, 4, 5, 0] [(0, pR (some a0)), (1, pI a1), (3, pL a3), (5, pI a5), (6, pI a6), (7, pI (a7 + (1 : Int32)))] rfl ?_
  exact hk195 a0 a1 a3 a5 a6 (a7 + (1 : Int32)) M h
theorem wX16_passTo_L255 {x : GX} {n0 sl0 : Nat} (X : Cx x cX16_passTo RX16 none n0 sl0 10 254) {out : Mm} (hE : Ends x n0 sl0 none out) (hn : xn x = 11) (fu : Nat) (k2 : Nat → Int32 → Int32 → Mm → Option (Mm)) (k195 : Nat → Int32 → Int64 → Int32 → Int32 → Int32 → Mm → Option (Mm)) (hk2 : ∀ (b0 : Nat) (b1 : Int32) (b2 : Int32)  (M : Mm), k2 b0 b1 b2 M = some out → Gw x M 2 [(0, pR (some b0)), (1, pI b1), (2, pI b2)] []) (hk195 : ∀ (b0 : Nat) (b1 : Int32) (b3 : Int64) (b5 : Int32) (b6 : Int32) (b7 : Int32)  (M : Mm), k195 b0 b1 b3 b5 b6 b7 M = some out → Gw x M 195 [(0, pR (some b0)), (1, pI b1), (3, pL b3), (5, pI b5), (6, pI b6), (7, pI b7)] []) (a0 : Nat) (a1 : Int32) (a3 : Int64) (a5 : Int32) (a6 : Int32) (a7 : Int32) (a8 : Option Nat)  (M : Mm) (h : fX16_passTo_L255 fu k2 k195 a0 a1 a3 a5 a6 a7 a8 M = some out) : Gw x M 255 [(0, pR (some a0)), (1, pI a1), (3, pL a3), (5, pI a5), (6, pI a6), (7, pI a7), (8, pR a8)] [] := by
  unfold fX16_passTo_L255 at h
  refine g_aload X (pc := 255) 6 rfl dX16_passTo_255 ?_
  obtain ⟨v2, M1, eM1, h⟩ := b2d h
  refine g_callS X (pc := 257) (M' := M1) (ro := some (pL v2)) (as := [pR a8]) (as' := [pR a8]) (st := []) (ctX16_life _ _ _ _ _ _ fu  a8 M _ eM1) tb_2062 tb_2060 tb_2061 tb_8 hyX16_life rfl rfl ⟨by decide, by decide⟩ (Nat.le_of_ble_eq_true rfl) dX16_passTo_257 ?_
  refine g_lload_n X (pc := 260) 2 rfl rfl dX16_passTo_260 ?_
  refine g_lcmp X (pc := 261) dX16_passTo_261 ?_
  refine g_if_ge X (pc := 262) (tgt := 278) dX16_passTo_262 (by decide) (fun hc => ?_) (fun hc => ?_)
  · have h := (if_pos hc).symm.trans h
    refine g_sub [0, 1, 2, 3, 4, 5] [(0, pR (some a0)), (1, pI a1), (3, pL a3), (5, pI a5), (6, pI a6), (7, pI a7)] rfl ?_
    exact wX16_passTo_L278 X hE hn fu k2 k195 hk2 hk195 a0 a1 a3 a5 a6 a7 M1 h
  · have h := (if_neg hc).symm.trans h
    refine g_aload X (pc := 265) 6 rfl dX16_passTo_265 ?_
    obtain ⟨v4, M3, eM3, h⟩ := b2d h
    refine g_callS X (pc := 267) (M' := M3) (ro := some (pL v4)) (as := [pR a8]) (as' := [pR a8]) (st := []) (ctX16_life _ _ _ _ _ _ fu  a8 M1 _ eM3) tb_2062 tb_2060 tb_2061 tb_8 hyX16_life rfl rfl ⟨by decide, by decide⟩ (Nat.le_of_ble_eq_true rfl) dX16_passTo_267 ?_
    refine g_lstore_n X (pc := 270) [(3, pL v4), (0, pR (some a0)), (1, pI a1), (5, pI a5), (6, pI a6), (7, pI a7), (8, pR a8)] rfl (lt_n hn (by decide)) rfl dX16_passTo_270 ?_
    refine g_iconst X (pc := 271) (v := 3) dX16_passTo_271 (by decide) ?_
    refine g_istore X (pc := 272) [(5, pI (3 : Int32)), (3, pL v4), (0, pR (some a0)), (1, pI a1), (6, pI a6), (7, pI a7), (8, pR a8)] (lt_n hn (by decide)) rfl dX16_passTo_272 ?_
    refine g_iload X (pc := 274) 5 rfl dX16_passTo_274 ?_
    refine g_istore X (pc := 276) [(6, pI a7), (5, pI (3 : Int32)), (3, pL v4), (0, pR (some a0)), (1, pI a1), (7, pI a7), (8, pR a8)] (lt_n hn (by decide)) rfl dX16_passTo_276 ?_
    refine g_sub [3, 4, 2, 1, 0, 5] [(0, pR (some a0)), (1, pI a1), (3, pL v4), (5, pI (3 : Int32)), (6, pI a7), (7, pI a7)] rfl ?_
    exact wX16_passTo_L278 X hE hn fu k2 k195 hk2 hk195 a0 a1 v4 (3 : Int32) a7 a7 M3 h
theorem wX16_passTo_L195 {x : GX} {n0 sl0 : Nat} (X : Cx x cX16_passTo RX16 none n0 sl0 10 254) {out : Mm} (hE : Ends x n0 sl0 none out) (hn : xn x = 11) (fu : Nat) (k2 : Nat → Int32 → Int32 → Mm → Option (Mm)) (hk2 : ∀ (b0 : Nat) (b1 : Int32) (b2 : Int32)  (M : Mm), k2 b0 b1 b2 M = some out → Gw x M 2 [(0, pR (some b0)), (1, pI b1), (2, pI b2)] []) : ∀ (n : Nat) (a0 : Nat) (a1 : Int32) (a3 : Int64) (a5 : Int32) (a6 : Int32) (a7 : Int32)  (M : Mm), fX16_passTo_L195 fu k2 n a0 a1 a3 a5 a6 a7 M = some out → Gw x M 195 [(0, pR (some a0)), (1, pI a1), (3, pL a3), (5, pI a5), (6, pI a6), (7, pI a7)] [] := by
  intro n
  induction n with
  | zero =>
    intro a0 a1 a3 a5 a6 a7 M h
    have h : (none : Option (Mm)) = some out := h
    cases h
  | succ n ih =>
    intro a0 a1 a3 a5 a6 a7 M h
    rw [fX16_passTo_L195] at h
    refine g_iload X (pc := 195) 5 rfl dX16_passTo_195 ?_
    refine g_bipush X (pc := 197) (v := 16) dX16_passTo_197 (by decide) ?_
    refine g_icmp_ge X (pc := 199) (tgt := 284) dX16_passTo_199 (by decide) (fun hc => ?_) (fun hc => ?_)
    · have h := (if_pos hc).symm.trans h
      refine g_lload_n X (pc := 284) 2 rfl rfl dX16_passTo_284 ?_
      refine g_iload_n X (pc := 285) 1 rfl rfl dX16_passTo_285 ?_
      refine g_i2l X (pc := 286) dX16_passTo_286 ?_
      refine g_lcmp X (pc := 287) dX16_passTo_287 ?_
      refine g_if_gt X (pc := 288) (tgt := 295) dX16_passTo_288 (by decide) (fun hc => ?_) (fun hc => ?_)
      · have h := (if_pos hc).symm.trans h
        refine g_iconst X (pc := 295) (v := 0) dX16_passTo_295 (by decide) ?_
        refine g_sub [0, 1, 2, 3, 4] [(0, pR (some a0)), (1, pI a1), (3, pL a3), (5, pI a5), (6, pI a6)] rfl ?_
        exact wX16_passTo_L296 X hE hn fu k2 hk2 a0 a1 a3 a5 a6 (0 : Int32) M h
      · have h := (if_neg hc).symm.trans h
        refine g_iconst X (pc := 291) (v := 1) dX16_passTo_291 (by decide) ?_
        refine g_goto X (pc := 292) (tgt := 296) dX16_passTo_292 (by decide) ?_
        refine g_sub [0, 1, 2, 3, 4] [(0, pR (some a0)), (1, pI a1), (3, pL a3), (5, pI a5), (6, pI a6)] rfl ?_
        exact wX16_passTo_L296 X hE hn fu k2 hk2 a0 a1 a3 a5 a6 (1 : Int32) M h
    · have h := (if_neg hc).symm.trans h
      refine g_aload_n X (pc := 202) 0 rfl rfl dX16_passTo_202 ?_
      obtain ⟨v1, ev1, h⟩ := bd h
      refine g_getR X (pc := 203) fk_16_31 rfl rfl ev1 tb_1845 dX16_passTo_203 ?_
      refine g_iload X (pc := 206) 5 rfl dX16_passTo_206 ?_
      obtain ⟨v2, ev2, h⟩ := bd h
      refine g_aaload X (pc := 208) (k := 9) rfl rfl (by decide) ev2 dX16_passTo_208 ?_
      refine g_astore X (pc := 209) [(8, pR v2), (0, pR (some a0)), (1, pI a1), (3, pL a3), (5, pI a5), (6, pI a6), (7, pI a7)] (lt_n hn (by decide)) rfl dX16_passTo_209 ?_
      refine g_aload X (pc := 211) 0 rfl dX16_passTo_211 ?_
      obtain ⟨v3, ev3, h⟩ := bd h
      refine g_getI X (pc := 213) fk_12_0 rfl rfl ev3 tb_1580 dX16_passTo_213 ?_
      refine g_if_ne X (pc := 216) (tgt := 222) dX16_passTo_216 (by decide) (fun hc => ?_) (fun hc => ?_)
      · have h := (if_neg hc).symm.trans h
        refine g_aload X (pc := 222) 0 rfl dX16_passTo_222 ?_
        obtain ⟨v4, ev4, h⟩ := bd h
        refine g_getI X (pc := 224) fk_12_21 rfl rfl ev4 tb_1601 dX16_passTo_224 ?_
        refine g_if_eq X (pc := 227) (tgt := 255) dX16_passTo_227 (by decide) (fun hc => ?_) (fun hc => ?_)
        · have h := (if_pos hc).symm.trans h
          refine g_sub [1, 2, 3, 4, 5, 6, 0] [(0, pR (some a0)), (1, pI a1), (3, pL a3), (5, pI a5), (6, pI a6), (7, pI a7), (8, pR v2)] rfl ?_
          exact wX16_passTo_L255 X hE hn fu k2 (fun b0 b1 b3 b5 b6 b7 M => fX16_passTo_L195 fu k2 n b0 b1 b3 b5 b6 b7 M) hk2 ih a0 a1 a3 a5 a6 a7 v2 M h
        · have h := (if_neg hc).symm.trans h
          refine g_aload X (pc := 230) 0 rfl dX16_passTo_230 ?_
          obtain ⟨v5, ev5, h⟩ := bd h
          refine g_getI X (pc := 232) fk_12_22 rfl rfl ev5 tb_1602 dX16_passTo_232 ?_
          refine g_i2l X (pc := 235) dX16_passTo_235 ?_
          refine g_lload_n X (pc := 236) 3 rfl rfl dX16_passTo_236 ?_
          refine g_lcmp X (pc := 237) dX16_passTo_237 ?_
          refine g_if_ge X (pc := 238) (tgt := 255) dX16_passTo_238 (by decide) (fun hc => ?_) (fun hc => ?_)
          · have h := (if_pos hc).symm.trans h
            refine g_sub [1, 2, 3, 4, 5, 6, 0] [(0, pR (some a0)), (1, pI a1), (3, pL a3), (5, pI a5), (6, pI a6), (7, pI a7), (8, pR v2)] rfl ?_
            exact wX16_passTo_L255 X hE hn fu k2 (fun b0 b1 b3 b5 b6 b7 M => fX16_passTo_L195 fu k2 n b0 b1 b3 b5 b6 b7 M) hk2 ih a0 a1 a3 a5 a6 a7 v2 M h
          · have h := (if_neg hc).symm.trans h
            refine g_aload X (pc := 241) 0 rfl dX16_passTo_241 ?_
            obtain ⟨v6, ev6, h⟩ := bd h
            refine g_getI X (pc := 243) fk_12_22 rfl rfl ev6 tb_1602 dX16_passTo_243 ?_
            refine g_i2l X (pc := 246) dX16_passTo_246 ?_
            refine g_lstore_n X (pc := 247) [(3, pL (Int32.toInt64 v6)), (8, pR v2), (0, pR (some a0)), (1, pI a1), (5, pI a5), (6, pI a6), (7, pI a7)] rfl (lt_n hn (by decide)) rfl dX16_passTo_247 ?_
            refine g_iconst X (pc := 248) (v := 2) dX16_passTo_248 (by decide) ?_
            refine g_istore X (pc := 249) [(5, pI (2 : Int32)), (3, pL (Int32.toInt64 v6)), (8, pR v2), (0, pR (some a0)), (1, pI a1), (6, pI a6), (7, pI a7)] (lt_n hn (by decide)) rfl dX16_passTo_249 ?_
            refine g_iload X (pc := 251) 6 rfl dX16_passTo_251 ?_
            refine g_istore X (pc := 253) [(6, pI a7), (5, pI (2 : Int32)), (3, pL (Int32.toInt64 v6)), (8, pR v2), (0, pR (some a0)), (1, pI a1), (7, pI a7)] (lt_n hn (by decide)) rfl dX16_passTo_253 ?_
            refine g_sub [4, 5, 2, 1, 0, 6, 3] [(0, pR (some a0)), (1, pI a1), (3, pL (Int32.toInt64 v6)), (5, pI (2 : Int32)), (6, pI a7), (7, pI a7), (8, pR v2)] rfl ?_
            exact wX16_passTo_L255 X hE hn fu k2 (fun b0 b1 b3 b5 b6 b7 M => fX16_passTo_L195 fu k2 n b0 b1 b3 b5 b6 b7 M) hk2 ih a0 a1 (Int32.toInt64 v6) (2 : Int32) a7 a7 v2 M h
      · have h := (if_pos hc).symm.trans h
        refine g_goto X (pc := 219) (tgt := 278) dX16_passTo_219 (by decide) ?_
        refine g_sub [1, 2, 3, 4, 5, 6] [(0, pR (some a0)), (1, pI a1), (3, pL a3), (5, pI a5), (6, pI a6), (7, pI a7)] rfl ?_
        exact wX16_passTo_L278 X hE hn fu k2 (fun b0 b1 b3 b5 b6 b7 M => fX16_passTo_L195 fu k2 n b0 b1 b3 b5 b6 b7 M) hk2 ih a0 a1 a3 a5 a6 a7 M h
theorem wX16_passTo_L186 {x : GX} {n0 sl0 : Nat} (X : Cx x cX16_passTo RX16 none n0 sl0 10 254) {out : Mm} (hE : Ends x n0 sl0 none out) (hn : xn x = 11) (fu : Nat) (k2 : Nat → Int32 → Int32 → Mm → Option (Mm)) (k103 : Nat → Int32 → Int64 → Int32 → Int32 → Int32 → Mm → Option (Mm)) (hk2 : ∀ (b0 : Nat) (b1 : Int32) (b2 : Int32)  (M : Mm), k2 b0 b1 b2 M = some out → Gw x M 2 [(0, pR (some b0)), (1, pI b1), (2, pI b2)] []) (hk103 : ∀ (b0 : Nat) (b1 : Int32) (b3 : Int64) (b5 : Int32) (b6 : Int32) (b7 : Int32)  (M : Mm), k103 b0 b1 b3 b5 b6 b7 M = some out → Gw x M 103 [(0, pR (some b0)), (1, pI b1), (3, pL b3), (5, pI b5), (6, pI b6), (7, pI b7)] []) (a0 : Nat) (a1 : Int32) (a3 : Int64) (a5 : Int32) (a6 : Int32) (a7 : Int32)  (M : Mm) (h : fX16_passTo_L186 fu k2 k103 a0 a1 a3 a5 a6 a7 M = some out) : Gw x M 186 [(0, pR (some a0)), (1, pI a1), (3, pL a3), (5, pI a5), (6, pI a6), (7, pI a7)] [] := by
  unfold fX16_passTo_L186 at h
  refine g_iinc X (pc := 186) 5 [(7, pI (a7 + (1 : Int32))), (0, pR (some a0)), (1, pI a1), (3, pL a3), (5, pI a5), (6, pI a6)] rfl (iinc_e (by decide)) (lt_n hn (by decide)) rfl dX16_passTo_186 ?_
  refine g_goto X (pc := 189) (tgt := 103) dX16_passTo_189 (by decide) ?_
  refine g_sub [1, 2, 3, 4, 5, 0] [(0, pR (some a0)), (1, pI a1), (3, pL a3), (5, pI a5), (6, pI a6), (7, pI (a7 + (1 : Int32)))] rfl ?_
  exact hk103 a0 a1 a3 a5 a6 (a7 + (1 : Int32)) M h
theorem wX16_passTo_L176 {x : GX} {n0 sl0 : Nat} (X : Cx x cX16_passTo RX16 none n0 sl0 10 254) {out : Mm} (hE : Ends x n0 sl0 none out) (hn : xn x = 11) (fu : Nat) (k2 : Nat → Int32 → Int32 → Mm → Option (Mm)) (k103 : Nat → Int32 → Int64 → Int32 → Int32 → Int32 → Mm → Option (Mm)) (hk2 : ∀ (b0 : Nat) (b1 : Int32) (b2 : Int32)  (M : Mm), k2 b0 b1 b2 M = some out → Gw x M 2 [(0, pR (some b0)), (1, pI b1), (2, pI b2)] []) (hk103 : ∀ (b0 : Nat) (b1 : Int32) (b3 : Int64) (b5 : Int32) (b6 : Int32) (b7 : Int32)  (M : Mm), k103 b0 b1 b3 b5 b6 b7 M = some out → Gw x M 103 [(0, pR (some b0)), (1, pI b1), (3, pL b3), (5, pI b5), (6, pI b6), (7, pI b7)] []) (a0 : Nat) (a1 : Int32) (a7 : Int32) (a9 : Int64)  (M : Mm) (h : fX16_passTo_L176 fu k2 k103 a0 a1 a7 a9 M = some out) : Gw x M 176 [(0, pR (some a0)), (1, pI a1), (7, pI a7), (9, pL a9)] [] := by
  unfold fX16_passTo_L176 at h
  refine g_lload X (pc := 176) 3 rfl dX16_passTo_176 ?_
  refine g_lstore_n X (pc := 178) [(3, pL a9), (0, pR (some a0)), (1, pI a1), (7, pI a7), (9, pL a9)] rfl (lt_n hn (by decide)) rfl dX16_passTo_178 ?_
  refine g_iconst X (pc := 179) (v := 1) dX16_passTo_179 (by decide) ?_
  refine g_istore X (pc := 180) [(5, pI (1 : Int32)), (3, pL a9), (0, pR (some a0)), (1, pI a1), (7, pI a7), (9, pL a9)] (lt_n hn (by decide)) rfl dX16_passTo_180 ?_
  refine g_iload X (pc := 182) 4 rfl dX16_passTo_182 ?_
  refine g_istore X (pc := 184) [(6, pI a7), (5, pI (1 : Int32)), (3, pL a9), (0, pR (some a0)), (1, pI a1), (7, pI a7), (9, pL a9)] (lt_n hn (by decide)) rfl dX16_passTo_184 ?_
  refine g_sub [3, 4, 2, 1, 0, 5] [(0, pR (some a0)), (1, pI a1), (3, pL a9), (5, pI (1 : Int32)), (6, pI a7), (7, pI a7)] rfl ?_
  exact wX16_passTo_L186 X hE hn fu k2 k103 hk2 hk103 a0 a1 a9 (1 : Int32) a7 a7 M h
theorem wX16_passTo_L103 {x : GX} {n0 sl0 : Nat} (X : Cx x cX16_passTo RX16 none n0 sl0 10 254) {out : Mm} (hE : Ends x n0 sl0 none out) (hn : xn x = 11) (fu : Nat) (k2 : Nat → Int32 → Int32 → Mm → Option (Mm)) (hk2 : ∀ (b0 : Nat) (b1 : Int32) (b2 : Int32)  (M : Mm), k2 b0 b1 b2 M = some out → Gw x M 2 [(0, pR (some b0)), (1, pI b1), (2, pI b2)] []) : ∀ (n : Nat) (a0 : Nat) (a1 : Int32) (a3 : Int64) (a5 : Int32) (a6 : Int32) (a7 : Int32)  (M : Mm), fX16_passTo_L103 fu k2 n a0 a1 a3 a5 a6 a7 M = some out → Gw x M 103 [(0, pR (some a0)), (1, pI a1), (3, pL a3), (5, pI a5), (6, pI a6), (7, pI a7)] [] := by
  intro n
  induction n with
  | zero =>
    intro a0 a1 a3 a5 a6 a7 M h
    have h : (none : Option (Mm)) = some out := h
    cases h
  | succ n ih =>
    intro a0 a1 a3 a5 a6 a7 M h
    rw [fX16_passTo_L103] at h
    refine g_iload X (pc := 103) 5 rfl dX16_passTo_103 ?_
    refine g_iconst X (pc := 105) (v := 4) dX16_passTo_105 (by decide) ?_
    refine g_icmp_ge X (pc := 106) (tgt := 192) dX16_passTo_106 (by decide) (fun hc => ?_) (fun hc => ?_)
    · have h := (if_pos hc).symm.trans h
      refine g_iconst X (pc := 192) (v := 0) dX16_passTo_192 (by decide) ?_
      refine g_istore X (pc := 193) [(7, pI (0 : Int32)), (0, pR (some a0)), (1, pI a1), (3, pL a3), (5, pI a5), (6, pI a6)] (lt_n hn (by decide)) rfl dX16_passTo_193 ?_
      refine g_sub [1, 2, 3, 4, 5, 0] [(0, pR (some a0)), (1, pI a1), (3, pL a3), (5, pI a5), (6, pI a6), (7, pI (0 : Int32))] rfl ?_
      exact wX16_passTo_L195 X hE hn fu k2 hk2 fu a0 a1 a3 a5 a6 (0 : Int32) M h
    · have h := (if_neg hc).symm.trans h
      refine g_aload_n X (pc := 109) 0 rfl rfl dX16_passTo_109 ?_
      obtain ⟨v1, ev1, h⟩ := bd h
      refine g_getR X (pc := 110) fk_16_28 rfl rfl ev1 tb_1842 dX16_passTo_110 ?_
      refine g_iload X (pc := 113) 5 rfl dX16_passTo_113 ?_
      obtain ⟨v2, ev2, h⟩ := bd h
      refine g_aaload X (pc := 115) (k := 8) rfl rfl (by decide) ev2 dX16_passTo_115 ?_
      refine g_astore X (pc := 116) [(8, pR v2), (0, pR (some a0)), (1, pI a1), (3, pL a3), (5, pI a5), (6, pI a6), (7, pI a7)] (lt_n hn (by decide)) rfl dX16_passTo_116 ?_
      refine g_aload X (pc := 118) 0 rfl dX16_passTo_118 ?_
      obtain ⟨v3, ev3, h⟩ := bd h
      refine g_getI X (pc := 120) fk_13_5 rfl rfl ev3 tb_1789 dX16_passTo_120 ?_
      refine g_i2l X (pc := 123) dX16_passTo_123 ?_
      refine g_ldc2 X (pc := 124) tb_2059 dX16_passTo_124 ?_
      refine g_ladd X (pc := 127) dX16_passTo_127 ?_
      refine g_lstore X (pc := 128) [(9, pL ((Int32.toInt64 v3) + (15000 : Int64))), (8, pR v2), (0, pR (some a0)), (1, pI a1), (3, pL a3), (5, pI a5), (6, pI a6), (7, pI a7)] (lt_n hn (by decide)) rfl dX16_passTo_128 ?_
      refine g_aload X (pc := 130) 1 rfl dX16_passTo_130 ?_
      obtain ⟨v4, ev4, h⟩ := bd h
      refine g_getI X (pc := 132) fk_13_0 rfl rfl ev4 tb_1784 dX16_passTo_132 ?_
      refine g_if_eq X (pc := 135) (tgt := 186) dX16_passTo_135 (by decide) (fun hc => ?_) (fun hc => ?_)
      · have h := (if_pos hc).symm.trans h
        refine g_sub [2, 3, 4, 5, 6, 7] [(0, pR (some a0)), (1, pI a1), (3, pL a3), (5, pI a5), (6, pI a6), (7, pI a7)] rfl ?_
        exact wX16_passTo_L186 X hE hn fu k2 (fun b0 b1 b3 b5 b6 b7 M => fX16_passTo_L103 fu k2 n b0 b1 b3 b5 b6 b7 M) hk2 ih a0 a1 a3 a5 a6 a7 M h
      · have h := (if_neg hc).symm.trans h
        refine g_lload X (pc := 138) 0 rfl dX16_passTo_138 ?_
        refine g_lload_n X (pc := 140) 4 rfl rfl dX16_passTo_140 ?_
        refine g_lcmp X (pc := 141) dX16_passTo_141 ?_
        refine g_if_lt X (pc := 142) (tgt := 176) dX16_passTo_142 (by decide) (fun hc => ?_) (fun hc => ?_)
        · have h := (if_pos hc).symm.trans h
          refine g_sub [2, 3, 7, 0] [(0, pR (some a0)), (1, pI a1), (7, pI a7), (9, pL ((Int32.toInt64 v3) + (15000 : Int64)))] rfl ?_
          exact wX16_passTo_L176 X hE hn fu k2 (fun b0 b1 b3 b5 b6 b7 M => fX16_passTo_L103 fu k2 n b0 b1 b3 b5 b6 b7 M) hk2 ih a0 a1 a7 ((Int32.toInt64 v3) + (15000 : Int64)) M h
        · have h := (if_neg hc).symm.trans h
          refine g_lload X (pc := 145) 0 rfl dX16_passTo_145 ?_
          refine g_lload_n X (pc := 147) 4 rfl rfl dX16_passTo_147 ?_
          refine g_lcmp X (pc := 148) dX16_passTo_148 ?_
          refine g_if_ne X (pc := 149) (tgt := 186) dX16_passTo_149 (by decide) (fun hc => ?_) (fun hc => ?_)
          · have h := (if_neg hc).symm.trans h
            refine g_sub [2, 3, 4, 5, 6, 7] [(0, pR (some a0)), (1, pI a1), (3, pL a3), (5, pI a5), (6, pI a6), (7, pI a7)] rfl ?_
            exact wX16_passTo_L186 X hE hn fu k2 (fun b0 b1 b3 b5 b6 b7 M => fX16_passTo_L103 fu k2 n b0 b1 b3 b5 b6 b7 M) hk2 ih a0 a1 a3 a5 a6 a7 M h
          · have h := (if_pos hc).symm.trans h
            refine g_iload X (pc := 152) 5 rfl dX16_passTo_152 ?_
            refine g_iconst X (pc := 154) (v := 1) dX16_passTo_154 (by decide) ?_
            refine g_icmp_ne X (pc := 155) (tgt := 186) dX16_passTo_155 (by decide) (fun hc => ?_) (fun hc => ?_)
            · have h := (if_neg hc).symm.trans h
              refine g_sub [2, 3, 4, 5, 6, 7] [(0, pR (some a0)), (1, pI a1), (3, pL a3), (5, pI a5), (6, pI a6), (7, pI a7)] rfl ?_
              exact wX16_passTo_L186 X hE hn fu k2 (fun b0 b1 b3 b5 b6 b7 M => fX16_passTo_L103 fu k2 n b0 b1 b3 b5 b6 b7 M) hk2 ih a0 a1 a3 a5 a6 a7 M h
            · have h := (if_pos hc).symm.trans h
              refine g_aload X (pc := 158) 1 rfl dX16_passTo_158 ?_
              obtain ⟨v5, ev5, h⟩ := bd h
              refine g_getI X (pc := 160) fk_13_6 rfl rfl ev5 tb_1790 dX16_passTo_160 ?_
              refine g_aload_n X (pc := 163) 2 rfl rfl dX16_passTo_163 ?_
              obtain ⟨v6, ev6, h⟩ := bd h
              refine g_getR X (pc := 164) fk_16_28 rfl rfl ev6 tb_1842 dX16_passTo_164 ?_
              refine g_iload X (pc := 167) 6 rfl dX16_passTo_167 ?_
              obtain ⟨v7, ev7, h⟩ := bd h
              refine g_aaload X (pc := 169) (k := 8) rfl rfl (by decide) ev7 dX16_passTo_169 ?_
              obtain ⟨v8, ev8, h⟩ := bd h
              refine g_getI X (pc := 170) fk_13_6 rfl rfl ev8 tb_1790 dX16_passTo_170 ?_
              refine g_icmp_ge X (pc := 173) (tgt := 186) dX16_passTo_173 (by decide) (fun hc => ?_) (fun hc => ?_)
              · have h := (if_pos hc).symm.trans h
                refine g_sub [2, 3, 4, 5, 6, 7] [(0, pR (some a0)), (1, pI a1), (3, pL a3), (5, pI a5), (6, pI a6), (7, pI a7)] rfl ?_
                exact wX16_passTo_L186 X hE hn fu k2 (fun b0 b1 b3 b5 b6 b7 M => fX16_passTo_L103 fu k2 n b0 b1 b3 b5 b6 b7 M) hk2 ih a0 a1 a3 a5 a6 a7 M h
              · have h := (if_neg hc).symm.trans h
                refine g_sub [2, 3, 7, 0] [(0, pR (some a0)), (1, pI a1), (7, pI a7), (9, pL ((Int32.toInt64 v3) + (15000 : Int64)))] rfl ?_
                exact wX16_passTo_L176 X hE hn fu k2 (fun b0 b1 b3 b5 b6 b7 M => fX16_passTo_L103 fu k2 n b0 b1 b3 b5 b6 b7 M) hk2 ih a0 a1 a7 ((Int32.toInt64 v3) + (15000 : Int64)) M h
theorem wX16_passTo_L94 {x : GX} {n0 sl0 : Nat} (X : Cx x cX16_passTo RX16 none n0 sl0 10 254) {out : Mm} (hE : Ends x n0 sl0 none out) (hn : xn x = 11) (fu : Nat) (k2 : Nat → Int32 → Int32 → Mm → Option (Mm)) (k19 : Nat → Int32 → Int64 → Int32 → Int32 → Int32 → Mm → Option (Mm)) (hk2 : ∀ (b0 : Nat) (b1 : Int32) (b2 : Int32)  (M : Mm), k2 b0 b1 b2 M = some out → Gw x M 2 [(0, pR (some b0)), (1, pI b1), (2, pI b2)] []) (hk19 : ∀ (b0 : Nat) (b1 : Int32) (b3 : Int64) (b5 : Int32) (b6 : Int32) (b7 : Int32)  (M : Mm), k19 b0 b1 b3 b5 b6 b7 M = some out → Gw x M 19 [(0, pR (some b0)), (1, pI b1), (3, pL b3), (5, pI b5), (6, pI b6), (7, pI b7)] []) (a0 : Nat) (a1 : Int32) (a3 : Int64) (a5 : Int32) (a6 : Int32) (a7 : Int32)  (M : Mm) (h : fX16_passTo_L94 fu k2 k19 a0 a1 a3 a5 a6 a7 M = some out) : Gw x M 94 [(0, pR (some a0)), (1, pI a1), (3, pL a3), (5, pI a5), (6, pI a6), (7, pI a7)] [] := by
  unfold fX16_passTo_L94 at h
  refine g_iinc X (pc := 94) 5 [(7, pI (a7 + (1 : Int32))), (0, pR (some a0)), (1, pI a1), (3, pL a3), (5, pI a5), (6, pI a6)] rfl (iinc_e (by decide)) (lt_n hn (by decide)) rfl dX16_passTo_94 ?_
  refine g_goto X (pc := 97) (tgt := 19) dX16_passTo_97 (by decide) ?_
  refine g_sub [1, 2, 3, 4, 5, 0] [(0, pR (some a0)), (1, pI a1), (3, pL a3), (5, pI a5), (6, pI a6), (7, pI (a7 + (1 : Int32)))] rfl ?_
  exact hk19 a0 a1 a3 a5 a6 (a7 + (1 : Int32)) M h
theorem wX16_passTo_L81 {x : GX} {n0 sl0 : Nat} (X : Cx x cX16_passTo RX16 none n0 sl0 10 254) {out : Mm} (hE : Ends x n0 sl0 none out) (hn : xn x = 11) (fu : Nat) (k2 : Nat → Int32 → Int32 → Mm → Option (Mm)) (k19 : Nat → Int32 → Int64 → Int32 → Int32 → Int32 → Mm → Option (Mm)) (hk2 : ∀ (b0 : Nat) (b1 : Int32) (b2 : Int32)  (M : Mm), k2 b0 b1 b2 M = some out → Gw x M 2 [(0, pR (some b0)), (1, pI b1), (2, pI b2)] []) (hk19 : ∀ (b0 : Nat) (b1 : Int32) (b3 : Int64) (b5 : Int32) (b6 : Int32) (b7 : Int32)  (M : Mm), k19 b0 b1 b3 b5 b6 b7 M = some out → Gw x M 19 [(0, pR (some b0)), (1, pI b1), (3, pL b3), (5, pI b5), (6, pI b6), (7, pI b7)] []) (a0 : Nat) (a1 : Int32) (a7 : Int32) (a8 : Option Nat)  (M : Mm) (h : fX16_passTo_L81 fu k2 k19 a0 a1 a7 a8 M = some out) : Gw x M 81 [(0, pR (some a0)), (1, pI a1), (7, pI a7), (8, pR a8)] [] := by
  unfold fX16_passTo_L81 at h
  refine g_aload X (pc := 81) 3 rfl dX16_passTo_81 ?_
  obtain ⟨v2, M1, eM1, h⟩ := b2d h
  refine g_callS X (pc := 83) (M' := M1) (ro := some (pL v2)) (as := [pR a8]) (as' := [pR a8]) (st := []) (ctX16_askDue _ _ _ _ _ _ fu  a8 M _ eM1) tb_2057 tb_2055 tb_2056 tb_8 hyX16_askDue rfl rfl ⟨by decide, by decide⟩ (Nat.le_of_ble_eq_true rfl) dX16_passTo_83 ?_
  refine g_lstore_n X (pc := 86) [(3, pL v2), (0, pR (some a0)), (1, pI a1), (7, pI a7), (8, pR a8)] rfl (lt_n hn (by decide)) rfl dX16_passTo_86 ?_
  refine g_iconst X (pc := 87) (v := 0) dX16_passTo_87 (by decide) ?_
  refine g_istore X (pc := 88) [(5, pI (0 : Int32)), (3, pL v2), (0, pR (some a0)), (1, pI a1), (7, pI a7), (8, pR a8)] (lt_n hn (by decide)) rfl dX16_passTo_88 ?_
  refine g_iload X (pc := 90) 4 rfl dX16_passTo_90 ?_
  refine g_istore X (pc := 92) [(6, pI a7), (5, pI (0 : Int32)), (3, pL v2), (0, pR (some a0)), (1, pI a1), (7, pI a7), (8, pR a8)] (lt_n hn (by decide)) rfl dX16_passTo_92 ?_
  refine g_sub [3, 4, 2, 1, 0, 5] [(0, pR (some a0)), (1, pI a1), (3, pL v2), (5, pI (0 : Int32)), (6, pI a7), (7, pI a7)] rfl ?_
  exact wX16_passTo_L94 X hE hn fu k2 k19 hk2 hk19 a0 a1 v2 (0 : Int32) a7 a7 M1 h
theorem wX16_passTo_L19 {x : GX} {n0 sl0 : Nat} (X : Cx x cX16_passTo RX16 none n0 sl0 10 254) {out : Mm} (hE : Ends x n0 sl0 none out) (hn : xn x = 11) (fu : Nat) (k2 : Nat → Int32 → Int32 → Mm → Option (Mm)) (hk2 : ∀ (b0 : Nat) (b1 : Int32) (b2 : Int32)  (M : Mm), k2 b0 b1 b2 M = some out → Gw x M 2 [(0, pR (some b0)), (1, pI b1), (2, pI b2)] []) : ∀ (n : Nat) (a0 : Nat) (a1 : Int32) (a3 : Int64) (a5 : Int32) (a6 : Int32) (a7 : Int32)  (M : Mm), fX16_passTo_L19 fu k2 n a0 a1 a3 a5 a6 a7 M = some out → Gw x M 19 [(0, pR (some a0)), (1, pI a1), (3, pL a3), (5, pI a5), (6, pI a6), (7, pI a7)] [] := by
  intro n
  induction n with
  | zero =>
    intro a0 a1 a3 a5 a6 a7 M h
    have h : (none : Option (Mm)) = some out := h
    cases h
  | succ n ih =>
    intro a0 a1 a3 a5 a6 a7 M h
    rw [fX16_passTo_L19] at h
    refine g_iload X (pc := 19) 5 rfl dX16_passTo_19 ?_
    refine g_bipush X (pc := 21) (v := 8) dX16_passTo_21 (by decide) ?_
    refine g_icmp_ge X (pc := 23) (tgt := 100) dX16_passTo_23 (by decide) (fun hc => ?_) (fun hc => ?_)
    · have h := (if_pos hc).symm.trans h
      refine g_iconst X (pc := 100) (v := 0) dX16_passTo_100 (by decide) ?_
      refine g_istore X (pc := 101) [(7, pI (0 : Int32)), (0, pR (some a0)), (1, pI a1), (3, pL a3), (5, pI a5), (6, pI a6)] (lt_n hn (by decide)) rfl dX16_passTo_101 ?_
      refine g_sub [1, 2, 3, 4, 5, 0] [(0, pR (some a0)), (1, pI a1), (3, pL a3), (5, pI a5), (6, pI a6), (7, pI (0 : Int32))] rfl ?_
      exact wX16_passTo_L103 X hE hn fu k2 hk2 fu a0 a1 a3 a5 a6 (0 : Int32) M h
    · have h := (if_neg hc).symm.trans h
      refine g_aload_n X (pc := 26) 0 rfl rfl dX16_passTo_26 ?_
      obtain ⟨v1, ev1, h⟩ := bd h
      refine g_getR X (pc := 27) fk_16_27 rfl rfl ev1 tb_1841 dX16_passTo_27 ?_
      refine g_iload X (pc := 30) 5 rfl dX16_passTo_30 ?_
      obtain ⟨v2, ev2, h⟩ := bd h
      refine g_aaload X (pc := 32) (k := 7) rfl rfl (by decide) ev2 dX16_passTo_32 ?_
      refine g_astore X (pc := 33) [(8, pR v2), (0, pR (some a0)), (1, pI a1), (3, pL a3), (5, pI a5), (6, pI a6), (7, pI a7)] (lt_n hn (by decide)) rfl dX16_passTo_33 ?_
      refine g_aload X (pc := 35) 0 rfl dX16_passTo_35 ?_
      obtain ⟨v3, ev3, h⟩ := bd h
      refine g_getI X (pc := 37) fk_15_0 rfl rfl ev3 tb_1756 dX16_passTo_37 ?_
      refine g_if_eq X (pc := 40) (tgt := 94) dX16_passTo_40 (by decide) (fun hc => ?_) (fun hc => ?_)
      · have h := (if_pos hc).symm.trans h
        refine g_sub [1, 2, 3, 4, 5, 6] [(0, pR (some a0)), (1, pI a1), (3, pL a3), (5, pI a5), (6, pI a6), (7, pI a7)] rfl ?_
        exact wX16_passTo_L94 X hE hn fu k2 (fun b0 b1 b3 b5 b6 b7 M => fX16_passTo_L19 fu k2 n b0 b1 b3 b5 b6 b7 M) hk2 ih a0 a1 a3 a5 a6 a7 M h
      · have h := (if_neg hc).symm.trans h
        refine g_aload X (pc := 43) 0 rfl dX16_passTo_43 ?_
        obtain ⟨v5, M4, eM4, h⟩ := b2d h
        refine g_callS X (pc := 45) (M' := M4) (ro := some (pL v5)) (as := [pR v2]) (as' := [pR v2]) (st := []) (ctX16_askDue _ _ _ _ _ _ fu  v2 M _ eM4) tb_2057 tb_2055 tb_2056 tb_8 hyX16_askDue rfl rfl ⟨by decide, by decide⟩ (Nat.le_of_ble_eq_true rfl) dX16_passTo_45 ?_
        refine g_lload_n X (pc := 48) 3 rfl rfl dX16_passTo_48 ?_
        refine g_lcmp X (pc := 49) dX16_passTo_49 ?_
        refine g_if_lt X (pc := 50) (tgt := 81) dX16_passTo_50 (by decide) (fun hc => ?_) (fun hc => ?_)
        · have h := (if_pos hc).symm.trans h
          refine g_sub [1, 2, 6, 0] [(0, pR (some a0)), (1, pI a1), (7, pI a7), (8, pR v2)] rfl ?_
          exact wX16_passTo_L81 X hE hn fu k2 (fun b0 b1 b3 b5 b6 b7 M => fX16_passTo_L19 fu k2 n b0 b1 b3 b5 b6 b7 M) hk2 ih a0 a1 a7 v2 M4 h
        · have h := (if_neg hc).symm.trans h
          refine g_aload X (pc := 53) 0 rfl dX16_passTo_53 ?_
          obtain ⟨v7, M6, eM6, h⟩ := b2d h
          refine g_callS X (pc := 55) (M' := M6) (ro := some (pL v7)) (as := [pR v2]) (as' := [pR v2]) (st := []) (ctX16_askDue _ _ _ _ _ _ fu  v2 M4 _ eM6) tb_2057 tb_2055 tb_2056 tb_8 hyX16_askDue rfl rfl ⟨by decide, by decide⟩ (Nat.le_of_ble_eq_true rfl) dX16_passTo_55 ?_
          refine g_lload_n X (pc := 58) 3 rfl rfl dX16_passTo_58 ?_
          refine g_lcmp X (pc := 59) dX16_passTo_59 ?_
          refine g_if_ne X (pc := 60) (tgt := 94) dX16_passTo_60 (by decide) (fun hc => ?_) (fun hc => ?_)
          · have h := (if_neg hc).symm.trans h
            refine g_sub [1, 2, 3, 4, 5, 6] [(0, pR (some a0)), (1, pI a1), (3, pL a3), (5, pI a5), (6, pI a6), (7, pI a7)] rfl ?_
            exact wX16_passTo_L94 X hE hn fu k2 (fun b0 b1 b3 b5 b6 b7 M => fX16_passTo_L19 fu k2 n b0 b1 b3 b5 b6 b7 M) hk2 ih a0 a1 a3 a5 a6 a7 M6 h
          · have h := (if_pos hc).symm.trans h
            refine g_aload X (pc := 63) 0 rfl dX16_passTo_63 ?_
            obtain ⟨v8, ev8, h⟩ := bd h
            refine g_getI X (pc := 65) fk_15_5 rfl rfl ev8 tb_1761 dX16_passTo_65 ?_
            refine g_aload_n X (pc := 68) 1 rfl rfl dX16_passTo_68 ?_
            obtain ⟨v9, ev9, h⟩ := bd h
            refine g_getR X (pc := 69) fk_16_27 rfl rfl ev9 tb_1841 dX16_passTo_69 ?_
            refine g_iload X (pc := 72) 5 rfl dX16_passTo_72 ?_
            obtain ⟨v10, ev10, h⟩ := bd h
            refine g_aaload X (pc := 74) (k := 7) rfl rfl (by decide) ev10 dX16_passTo_74 ?_
            obtain ⟨v11, ev11, h⟩ := bd h
            refine g_getI X (pc := 75) fk_15_5 rfl rfl ev11 tb_1761 dX16_passTo_75 ?_
            refine g_icmp_ge X (pc := 78) (tgt := 94) dX16_passTo_78 (by decide) (fun hc => ?_) (fun hc => ?_)
            · have h := (if_pos hc).symm.trans h
              refine g_sub [1, 2, 3, 4, 5, 6] [(0, pR (some a0)), (1, pI a1), (3, pL a3), (5, pI a5), (6, pI a6), (7, pI a7)] rfl ?_
              exact wX16_passTo_L94 X hE hn fu k2 (fun b0 b1 b3 b5 b6 b7 M => fX16_passTo_L19 fu k2 n b0 b1 b3 b5 b6 b7 M) hk2 ih a0 a1 a3 a5 a6 a7 M6 h
            · have h := (if_neg hc).symm.trans h
              refine g_sub [1, 2, 6, 0] [(0, pR (some a0)), (1, pI a1), (7, pI a7), (8, pR v2)] rfl ?_
              exact wX16_passTo_L81 X hE hn fu k2 (fun b0 b1 b3 b5 b6 b7 M => fX16_passTo_L19 fu k2 n b0 b1 b3 b5 b6 b7 M) hk2 ih a0 a1 a7 v2 M6 h
theorem wX16_passTo_L2 {x : GX} {n0 sl0 : Nat} (X : Cx x cX16_passTo RX16 none n0 sl0 10 254) {out : Mm} (hE : Ends x n0 sl0 none out) (hn : xn x = 11) (fu : Nat)   : ∀ (n : Nat) (a0 : Nat) (a1 : Int32) (a2 : Int32)  (M : Mm), fX16_passTo_L2 fu  n a0 a1 a2 M = some out → Gw x M 2 [(0, pR (some a0)), (1, pI a1), (2, pI a2)] [] := by
  intro n
  induction n with
  | zero =>
    intro a0 a1 a2 M h
    have h : (none : Option (Mm)) = some out := h
    cases h
  | succ n ih =>
    intro a0 a1 a2 M h
    rw [fX16_passTo_L2] at h
    refine g_iload_n X (pc := 2) 2 rfl rfl dX16_passTo_2 ?_
    refine g_if_eq X (pc := 3) (tgt := 388) dX16_passTo_3 (by decide) (fun hc => ?_) (fun hc => ?_)
    · have h := (if_pos hc).symm.trans h
      refine g_aload_n X (pc := 388) 0 rfl rfl dX16_passTo_388 ?_
      refine g_iload_n X (pc := 389) 1 rfl rfl dX16_passTo_389 ?_
      obtain ⟨M1, eM1, h⟩ := bd h
      refine g_putI X (pc := 390) fk_16_10 rfl rfl rfl eM1 tb_1824 (Or.inl rfl) dX16_passTo_390 ?_
      obtain rfl := Option.some.inj h
      exact g_return X hE dX16_passTo_393
    · have h := (if_neg hc).symm.trans h
      refine g_ldc2 X (pc := 6) tb_2054 dX16_passTo_6 ?_
      refine g_lstore_n X (pc := 9) [(3, pL (9223372036854775807 : Int64)), (0, pR (some a0)), (1, pI a1), (2, pI a2)] rfl (lt_n hn (by decide)) rfl dX16_passTo_9 ?_
      refine g_iconst X (pc := 10) (v := (-1)) dX16_passTo_10 (by decide) ?_
      refine g_istore X (pc := 11) [(5, pI (-1 : Int32)), (3, pL (9223372036854775807 : Int64)), (0, pR (some a0)), (1, pI a1), (2, pI a2)] (lt_n hn (by decide)) rfl dX16_passTo_11 ?_
      refine g_iconst X (pc := 13) (v := 0) dX16_passTo_13 (by decide) ?_
      refine g_istore X (pc := 14) [(6, pI (0 : Int32)), (5, pI (-1 : Int32)), (3, pL (9223372036854775807 : Int64)), (0, pR (some a0)), (1, pI a1), (2, pI a2)] (lt_n hn (by decide)) rfl dX16_passTo_14 ?_
      refine g_iconst X (pc := 16) (v := 0) dX16_passTo_16 (by decide) ?_
      refine g_istore X (pc := 17) [(7, pI (0 : Int32)), (6, pI (0 : Int32)), (5, pI (-1 : Int32)), (3, pL (9223372036854775807 : Int64)), (0, pR (some a0)), (1, pI a1), (2, pI a2)] (lt_n hn (by decide)) rfl dX16_passTo_17 ?_
      refine g_sub [4, 5, 3, 2, 1, 0] [(0, pR (some a0)), (1, pI a1), (3, pL (9223372036854775807 : Int64)), (5, pI (-1 : Int32)), (6, pI (0 : Int32)), (7, pI (0 : Int32))] rfl ?_
      exact wX16_passTo_L19 X hE hn fu (fun b0 b1 b2 M => fX16_passTo_L2 fu  n b0 b1 b2 M) ih fu a0 a1 (9223372036854775807 : Int64) (-1 : Int32) (0 : Int32) (0 : Int32) M h
theorem wX16_passTo {x : GX} {n0 sl0 : Nat} (X : Cx x cX16_passTo RX16 none n0 sl0 10 254) {out : Mm} (hE : Ends x n0 sl0 none out) (hn : xn x = 11) (fu : Nat)   (a0 : Nat) (a1 : Int32)  (M : Mm) (h : fX16_passTo fu  a0 a1 M = some out) : Gw x M 0 [(0, pR (some a0)), (1, pI a1)] [] := by
  unfold fX16_passTo at h
  refine g_iconst X (pc := 0) (v := 1) dX16_passTo_0 (by decide) ?_
  refine g_istore_n X (pc := 1) [(2, pI (1 : Int32)), (0, pR (some a0)), (1, pI a1)] rfl (lt_n hn (by decide)) rfl dX16_passTo_1 ?_
  refine g_sub [1, 2, 0] [(0, pR (some a0)), (1, pI a1), (2, pI (1 : Int32))] rfl ?_
  exact wX16_passTo_L2 X hE hn fu   fu a0 a1 (1 : Int32) M h
theorem hyX16_passTo : yX16_passTo.cls ≠ "java/lang/invoke/MethodHandle" ∧ yX16_passTo.cls ≠ "java/lang/invoke/VarHandle" ∧ (parseMethodDescriptor yX16_passTo.desc).map (fun d => d.parameters.length) = some 1 := ⟨by decide +kernel, by decide +kernel, by decide +kernel⟩
theorem ctX16_passTo (l : Launch) (E : Nat → Nat) (D : va_G) (dA : Nat → ClassId) (lo : Nat) (H0 : Heap) (fu : Nat) (a0 : Nat) (a1 : Int32) (M : Mm) (out : Mm) (h : fX16_passTo fu a0 a1 M = some out) : Ct l E D dA lo H0 yX16_passTo cX16_passTo 11 none 10 254 [pR (some a0), pI a1] M none out := by
  refine ct_of (by decide +kernel) (Nat.le_of_ble_eq_true rfl) ?_
  intro x hl he hd ha ho hh hn hin X hE
  exact wX16_passTo X hE hn fu a0 a1 M h
/-! WebHostModel.refused(I)I -/
def fX16_refused (fu : Nat)  (a0 : Nat) (a1 : Int32)  (M : Mm) : Option (Int32 × Mm) :=
    (gI M 16 1028 (some a0)).bind fun v1 =>
    if v1 = 0 then (
    some ((-1 : Int32), M))
    else (
    (gI M 16 1034 (some a0)).bind fun v2 =>
    if a1 < v2 then (
    some ((-2 : Int32), M))
    else (
    if (2000000000 : Int32) < a1 then (
    some ((-2 : Int32), M))
    else (
    (gI M 16 1034 (some a0)).bind fun v3 =>
    if (a1 - v3) ≤ (600000 : Int32) then (
    some ((0 : Int32), M))
    else (
    some ((-2 : Int32), M)))))
theorem dX16_refused_0 : decode cX16_refused 0 = .ok (.aload_n 0, 1) := by decide +kernel
theorem dX16_refused_1 : decode cX16_refused 1 = .ok (.getfield 95, 3) := by decide +kernel
theorem dX16_refused_4 : decode cX16_refused 4 = .ok (.ifCond .ne 5, 3) := by decide +kernel
theorem dX16_refused_7 : decode cX16_refused 7 = .ok (.iconst (-1), 1) := by decide +kernel
theorem dX16_refused_8 : decode cX16_refused 8 = .ok (.ireturn, 1) := by decide +kernel
theorem dX16_refused_9 : decode cX16_refused 9 = .ok (.iload_n 1, 1) := by decide +kernel
theorem dX16_refused_10 : decode cX16_refused 10 = .ok (.aload_n 0, 1) := by decide +kernel
theorem dX16_refused_11 : decode cX16_refused 11 = .ok (.getfield 134, 3) := by decide +kernel
theorem dX16_refused_14 : decode cX16_refused 14 = .ok (.if_icmp .lt 22, 3) := by decide +kernel
theorem dX16_refused_17 : decode cX16_refused 17 = .ok (.iload_n 1, 1) := by decide +kernel
theorem dX16_refused_18 : decode cX16_refused 18 = .ok (.ldc_w 595, 3) := by decide +kernel
theorem dX16_refused_21 : decode cX16_refused 21 = .ok (.if_icmp .gt 15, 3) := by decide +kernel
theorem dX16_refused_24 : decode cX16_refused 24 = .ok (.iload_n 1, 1) := by decide +kernel
theorem dX16_refused_25 : decode cX16_refused 25 = .ok (.aload_n 0, 1) := by decide +kernel
theorem dX16_refused_26 : decode cX16_refused 26 = .ok (.getfield 134, 3) := by decide +kernel
theorem dX16_refused_29 : decode cX16_refused 29 = .ok (.isub, 1) := by decide +kernel
theorem dX16_refused_30 : decode cX16_refused 30 = .ok (.ldc_w 596, 3) := by decide +kernel
theorem dX16_refused_33 : decode cX16_refused 33 = .ok (.if_icmp .le 8, 3) := by decide +kernel
theorem dX16_refused_36 : decode cX16_refused 36 = .ok (.bipush (-2), 2) := by decide +kernel
theorem dX16_refused_38 : decode cX16_refused 38 = .ok (.goto 4, 3) := by decide +kernel
theorem dX16_refused_41 : decode cX16_refused 41 = .ok (.iconst 0, 1) := by decide +kernel
theorem dX16_refused_42 : decode cX16_refused 42 = .ok (.ireturn, 1) := by decide +kernel
theorem wX16_refused {x : GX} {n0 sl0 : Nat} (X : Cx x cX16_refused RX16 (some .int) n0 sl0 0 0) {out : Int32 × Mm} (hE : Ends x n0 sl0 (some (pI out.1)) out.2) (hn : xn x = 2) (fu : Nat)   (a0 : Nat) (a1 : Int32)  (M : Mm) (h : fX16_refused fu  a0 a1 M = some out) : Gw x M 0 [(0, pR (some a0)), (1, pI a1)] [] := by
  unfold fX16_refused at h
  refine g_aload_n X (pc := 0) 0 rfl rfl dX16_refused_0 ?_
  obtain ⟨v1, ev1, h⟩ := bd h
  refine g_getI X (pc := 1) fk_16_4 rfl rfl ev1 tb_1818 dX16_refused_1 ?_
  refine g_if_ne X (pc := 4) (tgt := 9) dX16_refused_4 (by decide) (fun hc => ?_) (fun hc => ?_)
  · have h := (if_neg hc).symm.trans h
    refine g_iload_n X (pc := 9) 1 rfl rfl dX16_refused_9 ?_
    refine g_aload_n X (pc := 10) 0 rfl rfl dX16_refused_10 ?_
    obtain ⟨v2, ev2, h⟩ := bd h
    refine g_getI X (pc := 11) fk_16_10 rfl rfl ev2 tb_1824 dX16_refused_11 ?_
    refine g_icmp_lt X (pc := 14) (tgt := 36) dX16_refused_14 (by decide) (fun hc => ?_) (fun hc => ?_)
    · have h := (if_pos hc).symm.trans h
      refine g_bipush X (pc := 36) (v := (-2)) dX16_refused_36 (by decide) ?_
      refine g_goto X (pc := 38) (tgt := 42) dX16_refused_38 (by decide) ?_
      obtain rfl := Option.some.inj h
      exact g_ireturn X hE dX16_refused_42
    · have h := (if_neg hc).symm.trans h
      refine g_iload_n X (pc := 17) 1 rfl rfl dX16_refused_17 ?_
      refine g_ldcw X (pc := 18) tb_2048 dX16_refused_18 ?_
      refine g_icmp_gt X (pc := 21) (tgt := 36) dX16_refused_21 (by decide) (fun hc => ?_) (fun hc => ?_)
      · have h := (if_pos hc).symm.trans h
        refine g_bipush X (pc := 36) (v := (-2)) dX16_refused_36 (by decide) ?_
        refine g_goto X (pc := 38) (tgt := 42) dX16_refused_38 (by decide) ?_
        obtain rfl := Option.some.inj h
        exact g_ireturn X hE dX16_refused_42
      · have h := (if_neg hc).symm.trans h
        refine g_iload_n X (pc := 24) 1 rfl rfl dX16_refused_24 ?_
        refine g_aload_n X (pc := 25) 0 rfl rfl dX16_refused_25 ?_
        obtain ⟨v3, ev3, h⟩ := bd h
        refine g_getI X (pc := 26) fk_16_10 rfl rfl ev3 tb_1824 dX16_refused_26 ?_
        refine g_isub X (pc := 29) dX16_refused_29 ?_
        refine g_ldcw X (pc := 30) tb_2049 dX16_refused_30 ?_
        refine g_icmp_le X (pc := 33) (tgt := 41) dX16_refused_33 (by decide) (fun hc => ?_) (fun hc => ?_)
        · have h := (if_pos hc).symm.trans h
          refine g_iconst X (pc := 41) (v := 0) dX16_refused_41 (by decide) ?_
          obtain rfl := Option.some.inj h
          exact g_ireturn X hE dX16_refused_42
        · have h := (if_neg hc).symm.trans h
          refine g_bipush X (pc := 36) (v := (-2)) dX16_refused_36 (by decide) ?_
          refine g_goto X (pc := 38) (tgt := 42) dX16_refused_38 (by decide) ?_
          obtain rfl := Option.some.inj h
          exact g_ireturn X hE dX16_refused_42
  · have h := (if_pos hc).symm.trans h
    refine g_iconst X (pc := 7) (v := (-1)) dX16_refused_7 (by decide) ?_
    obtain rfl := Option.some.inj h
    exact g_ireturn X hE dX16_refused_8
theorem hyX16_refused : yX16_refused.cls ≠ "java/lang/invoke/MethodHandle" ∧ yX16_refused.cls ≠ "java/lang/invoke/VarHandle" ∧ (parseMethodDescriptor yX16_refused.desc).map (fun d => d.parameters.length) = some 1 := ⟨by decide +kernel, by decide +kernel, by decide +kernel⟩
theorem ctX16_refused (l : Launch) (E : Nat → Nat) (D : va_G) (dA : Nat → ClassId) (lo : Nat) (H0 : Heap) (fu : Nat) (a0 : Nat) (a1 : Int32) (M : Mm) (out : Int32 × Mm) (h : fX16_refused fu a0 a1 M = some out) : Ct l E D dA lo H0 yX16_refused cX16_refused 2 (some .int) 0 0 [pR (some a0), pI a1] M (some (pI out.1)) out.2 := by
  refine ct_of (by decide +kernel) (Nat.le_of_ble_eq_true rfl) ?_
  intro x hl he hd ha ho hh hn hin X hE
  exact wX16_refused X hE hn fu a0 a1 M h
/-! WebHostModel.frameIn()V -/
def fX16_frameIn_L74 (fu : Nat)  (a0 : Nat)  (M : Mm) : Option (Mm) :=
    (rc M 16 (some a0)).bind fun q1 =>
    b2 (fX16_trayHalf fu q1 (12 : Int32) M) fun v3 M2 =>
    if v3 = (2054 : Int32) then (
    (rc M2 16 (some a0)).bind fun q9 =>
    (fX16_arp fu q9  M2).bind fun M10 =>
    some M10)
    else (
    (rc M2 16 (some a0)).bind fun q4 =>
    b2 (fX16_trayHalf fu q4 (12 : Int32) M2) fun v6 M5 =>
    if v6 = (2048 : Int32) then (
    (rc M5 16 (some a0)).bind fun q7 =>
    (fX16_ipIn fu q7  M5).bind fun M8 =>
    some M8)
    else (
    some M5))
def fX16_frameIn_L64 (fu : Nat)  (a0 : Nat) (a1 : Int32) (s0 : Int32) (M : Mm) : Option (Mm) :=
    if a1 = 0 then (
    if s0 = 0 then (
    some M)
    else (
    fX16_frameIn_L74 fu  a0 M))
    else (
    fX16_frameIn_L74 fu  a0 M)
def fX16_frameIn_L63 (fu : Nat)  (a0 : Nat) (a1 : Int32)  (M : Mm) : Option (Mm) :=
    fX16_frameIn_L64 fu  a0 a1 (0 : Int32) M
def fX16_frameIn_L39 (fu : Nat)  (a0 : Nat) (s0 : Int32) (M : Mm) : Option (Mm) :=
    (rc M 16 (some a0)).bind fun q1 =>
    b2 (fX16_trayHalf fu q1 (0 : Int32) M) fun v3 M2 =>
    if v3 = (65535 : Int32) then (
    (rc M2 16 (some a0)).bind fun q4 =>
    b2 (fX16_trayWord fu q4 (2 : Int32) M2) fun v6 M5 =>
    if v6 = (-1 : Int32) then (
    fX16_frameIn_L64 fu  a0 s0 (1 : Int32) M5)
    else (
    fX16_frameIn_L63 fu  a0 s0 M5))
    else (
    fX16_frameIn_L63 fu  a0 s0 M2)
def fX16_frameIn_L38 (fu : Nat)  (a0 : Nat)  (M : Mm) : Option (Mm) :=
    fX16_frameIn_L39 fu  a0 (0 : Int32) M
def fX16_frameIn (fu : Nat)  (a0 : Nat)  (M : Mm) : Option (Mm) :=
    (gI M 16 1025 (some a0)).bind fun v1 =>
    if (14 : Int32) ≤ v1 then (
    (rc M 16 (some a0)).bind fun q2 =>
    b2 (fX16_trayHalf fu q2 (0 : Int32) M) fun v4 M3 =>
    (gI M3 16 1032 (some a0)).bind fun v5 =>
    if v4 = v5 then (
    (rc M3 16 (some a0)).bind fun q6 =>
    b2 (fX16_trayWord fu q6 (2 : Int32) M3) fun v8 M7 =>
    (gI M7 16 1033 (some a0)).bind fun v9 =>
    if v8 = v9 then (
    fX16_frameIn_L39 fu  a0 (1 : Int32) M7)
    else (
    fX16_frameIn_L38 fu  a0 M7))
    else (
    fX16_frameIn_L38 fu  a0 M3))
    else (
    some M)
theorem dX16_frameIn_0 : decode cX16_frameIn 0 = .ok (.aload_n 0, 1) := by decide +kernel
theorem dX16_frameIn_1 : decode cX16_frameIn 1 = .ok (.getfield 84, 3) := by decide +kernel
theorem dX16_frameIn_4 : decode cX16_frameIn 4 = .ok (.bipush 14, 2) := by decide +kernel
theorem dX16_frameIn_6 : decode cX16_frameIn 6 = .ok (.if_icmp .ge 4, 3) := by decide +kernel
theorem dX16_frameIn_9 : decode cX16_frameIn 9 = .ok (.return_, 1) := by decide +kernel
theorem dX16_frameIn_10 : decode cX16_frameIn 10 = .ok (.aload_n 0, 1) := by decide +kernel
theorem dX16_frameIn_11 : decode cX16_frameIn 11 = .ok (.iconst 0, 1) := by decide +kernel
theorem dX16_frameIn_12 : decode cX16_frameIn 12 = .ok (.invokevirtual 210, 3) := by decide +kernel
theorem dX16_frameIn_15 : decode cX16_frameIn 15 = .ok (.aload_n 0, 1) := by decide +kernel
theorem dX16_frameIn_16 : decode cX16_frameIn 16 = .ok (.getfield 125, 3) := by decide +kernel
theorem dX16_frameIn_19 : decode cX16_frameIn 19 = .ok (.if_icmp .ne 19, 3) := by decide +kernel
theorem dX16_frameIn_22 : decode cX16_frameIn 22 = .ok (.aload_n 0, 1) := by decide +kernel
theorem dX16_frameIn_23 : decode cX16_frameIn 23 = .ok (.iconst 2, 1) := by decide +kernel
theorem dX16_frameIn_24 : decode cX16_frameIn 24 = .ok (.invokevirtual 206, 3) := by decide +kernel
theorem dX16_frameIn_27 : decode cX16_frameIn 27 = .ok (.aload_n 0, 1) := by decide +kernel
theorem dX16_frameIn_28 : decode cX16_frameIn 28 = .ok (.getfield 128, 3) := by decide +kernel
theorem dX16_frameIn_31 : decode cX16_frameIn 31 = .ok (.if_icmp .ne 7, 3) := by decide +kernel
theorem dX16_frameIn_34 : decode cX16_frameIn 34 = .ok (.iconst 1, 1) := by decide +kernel
theorem dX16_frameIn_35 : decode cX16_frameIn 35 = .ok (.goto 4, 3) := by decide +kernel
theorem dX16_frameIn_38 : decode cX16_frameIn 38 = .ok (.iconst 0, 1) := by decide +kernel
theorem dX16_frameIn_39 : decode cX16_frameIn 39 = .ok (.istore_n 1, 1) := by decide +kernel
theorem dX16_frameIn_40 : decode cX16_frameIn 40 = .ok (.aload_n 0, 1) := by decide +kernel
theorem dX16_frameIn_41 : decode cX16_frameIn 41 = .ok (.iconst 0, 1) := by decide +kernel
theorem dX16_frameIn_42 : decode cX16_frameIn 42 = .ok (.invokevirtual 210, 3) := by decide +kernel
theorem dX16_frameIn_45 : decode cX16_frameIn 45 = .ok (.ldc 14, 2) := by decide +kernel
theorem dX16_frameIn_47 : decode cX16_frameIn 47 = .ok (.if_icmp .ne 16, 3) := by decide +kernel
theorem dX16_frameIn_50 : decode cX16_frameIn 50 = .ok (.aload_n 0, 1) := by decide +kernel
theorem dX16_frameIn_51 : decode cX16_frameIn 51 = .ok (.iconst 2, 1) := by decide +kernel
theorem dX16_frameIn_52 : decode cX16_frameIn 52 = .ok (.invokevirtual 206, 3) := by decide +kernel
theorem dX16_frameIn_55 : decode cX16_frameIn 55 = .ok (.iconst (-1), 1) := by decide +kernel
theorem dX16_frameIn_56 : decode cX16_frameIn 56 = .ok (.if_icmp .ne 7, 3) := by decide +kernel
theorem dX16_frameIn_59 : decode cX16_frameIn 59 = .ok (.iconst 1, 1) := by decide +kernel
theorem dX16_frameIn_60 : decode cX16_frameIn 60 = .ok (.goto 4, 3) := by decide +kernel
theorem dX16_frameIn_63 : decode cX16_frameIn 63 = .ok (.iconst 0, 1) := by decide +kernel
theorem dX16_frameIn_64 : decode cX16_frameIn 64 = .ok (.istore_n 2, 1) := by decide +kernel
theorem dX16_frameIn_65 : decode cX16_frameIn 65 = .ok (.iload_n 1, 1) := by decide +kernel
theorem dX16_frameIn_66 : decode cX16_frameIn 66 = .ok (.ifCond .ne 8, 3) := by decide +kernel
theorem dX16_frameIn_69 : decode cX16_frameIn 69 = .ok (.iload_n 2, 1) := by decide +kernel
theorem dX16_frameIn_70 : decode cX16_frameIn 70 = .ok (.ifCond .ne 4, 3) := by decide +kernel
theorem dX16_frameIn_73 : decode cX16_frameIn 73 = .ok (.return_, 1) := by decide +kernel
theorem dX16_frameIn_74 : decode cX16_frameIn 74 = .ok (.aload_n 0, 1) := by decide +kernel
theorem dX16_frameIn_75 : decode cX16_frameIn 75 = .ok (.bipush 12, 2) := by decide +kernel
theorem dX16_frameIn_77 : decode cX16_frameIn 77 = .ok (.invokevirtual 210, 3) := by decide +kernel
theorem dX16_frameIn_80 : decode cX16_frameIn 80 = .ok (.sipush 2054, 3) := by decide +kernel
theorem dX16_frameIn_83 : decode cX16_frameIn 83 = .ok (.if_icmp .ne 10, 3) := by decide +kernel
theorem dX16_frameIn_86 : decode cX16_frameIn 86 = .ok (.aload_n 0, 1) := by decide +kernel
theorem dX16_frameIn_87 : decode cX16_frameIn 87 = .ok (.invokevirtual 606, 3) := by decide +kernel
theorem dX16_frameIn_90 : decode cX16_frameIn 90 = .ok (.goto 19, 3) := by decide +kernel
theorem dX16_frameIn_93 : decode cX16_frameIn 93 = .ok (.aload_n 0, 1) := by decide +kernel
theorem dX16_frameIn_94 : decode cX16_frameIn 94 = .ok (.bipush 12, 2) := by decide +kernel
theorem dX16_frameIn_96 : decode cX16_frameIn 96 = .ok (.invokevirtual 210, 3) := by decide +kernel
theorem dX16_frameIn_99 : decode cX16_frameIn 99 = .ok (.sipush 2048, 3) := by decide +kernel
theorem dX16_frameIn_102 : decode cX16_frameIn 102 = .ok (.if_icmp .ne 7, 3) := by decide +kernel
theorem dX16_frameIn_105 : decode cX16_frameIn 105 = .ok (.aload_n 0, 1) := by decide +kernel
theorem dX16_frameIn_106 : decode cX16_frameIn 106 = .ok (.invokevirtual 609, 3) := by decide +kernel
theorem dX16_frameIn_109 : decode cX16_frameIn 109 = .ok (.return_, 1) := by decide +kernel
theorem wX16_frameIn_L74 {x : GX} {n0 sl0 : Nat} (X : Cx x cX16_frameIn RX16 none n0 sl0 16 384) {out : Mm} (hE : Ends x n0 sl0 none out) (hn : xn x = 3) (fu : Nat)   (a0 : Nat)  (M : Mm) (h : fX16_frameIn_L74 fu  a0 M = some out) : Gw x M 74 [(0, pR (some a0))] [] := by
  unfold fX16_frameIn_L74 at h
  refine g_aload_n X (pc := 74) 0 rfl rfl dX16_frameIn_74 ?_
  refine g_bipush X (pc := 75) (v := 12) dX16_frameIn_75 (by decide) ?_
  obtain ⟨q1, eq1, h⟩ := bd h
  obtain ⟨v3, M2, eM2, h⟩ := b2d h
  refine g_callV X (pc := 77) (M' := M2) (ro := some (pI v3)) (c := 16) rfl (by decide) (as := [pI (12 : Int32)]) (as' := [pI (12 : Int32)]) (st := []) eq1 (ctX16_trayHalf _ _ _ _ _ _ fu q1 (12 : Int32) M _ eM2) tb_2206 tb_2203 tb_2205 ts_93 tb_8 ⟨rfl, hyX16_trayHalf⟩ rfl rfl ⟨by decide, by decide⟩ (Nat.le_of_ble_eq_true rfl) dX16_frameIn_77 ?_
  refine g_sipush X (pc := 80) (v := 2054) dX16_frameIn_80 (by decide) ?_
  refine g_icmp_ne X (pc := 83) (tgt := 93) dX16_frameIn_83 (by decide) (fun hc => ?_) (fun hc => ?_)
  · have h := (if_neg hc).symm.trans h
    refine g_aload_n X (pc := 93) 0 rfl rfl dX16_frameIn_93 ?_
    refine g_bipush X (pc := 94) (v := 12) dX16_frameIn_94 (by decide) ?_
    obtain ⟨q4, eq4, h⟩ := bd h
    obtain ⟨v6, M5, eM5, h⟩ := b2d h
    refine g_callV X (pc := 96) (M' := M5) (ro := some (pI v6)) (c := 16) rfl (by decide) (as := [pI (12 : Int32)]) (as' := [pI (12 : Int32)]) (st := []) eq4 (ctX16_trayHalf _ _ _ _ _ _ fu q4 (12 : Int32) M2 _ eM5) tb_2206 tb_2203 tb_2205 ts_93 tb_8 ⟨rfl, hyX16_trayHalf⟩ rfl rfl ⟨by decide, by decide⟩ (Nat.le_of_ble_eq_true rfl) dX16_frameIn_96 ?_
    refine g_sipush X (pc := 99) (v := 2048) dX16_frameIn_99 (by decide) ?_
    refine g_icmp_ne X (pc := 102) (tgt := 109) dX16_frameIn_102 (by decide) (fun hc => ?_) (fun hc => ?_)
    · have h := (if_neg hc).symm.trans h
      obtain rfl := Option.some.inj h
      exact g_return X hE dX16_frameIn_109
    · have h := (if_pos hc).symm.trans h
      refine g_aload_n X (pc := 105) 0 rfl rfl dX16_frameIn_105 ?_
      obtain ⟨q7, eq7, h⟩ := bd h
      obtain ⟨M8, eM8, h⟩ := bd h
      refine g_callV X (pc := 106) (M' := M8) (ro := none) (c := 16) rfl (by decide) (as := []) (as' := []) (st := []) eq7 (ctX16_ipIn _ _ _ _ _ _ fu q7  M5 _ eM8) tb_2222 tb_2219 tb_2221 ts_97 tb_8 ⟨rfl, hyX16_ipIn⟩ rfl rfl ⟨by decide, by decide⟩ (Nat.le_of_ble_eq_true rfl) dX16_frameIn_106 ?_
      obtain rfl := Option.some.inj h
      exact g_return X hE dX16_frameIn_109
  · have h := (if_pos hc).symm.trans h
    refine g_aload_n X (pc := 86) 0 rfl rfl dX16_frameIn_86 ?_
    obtain ⟨q9, eq9, h⟩ := bd h
    obtain ⟨M10, eM10, h⟩ := bd h
    refine g_callV X (pc := 87) (M' := M10) (ro := none) (c := 16) rfl (by decide) (as := []) (as' := []) (st := []) eq9 (ctX16_arp _ _ _ _ _ _ fu q9  M2 _ eM10) tb_2214 tb_2211 tb_2213 ts_95 tb_8 ⟨rfl, hyX16_arp⟩ rfl rfl ⟨by decide, by decide⟩ (Nat.le_of_ble_eq_true rfl) dX16_frameIn_87 ?_
    refine g_goto X (pc := 90) (tgt := 109) dX16_frameIn_90 (by decide) ?_
    obtain rfl := Option.some.inj h
    exact g_return X hE dX16_frameIn_109
theorem wX16_frameIn_L64 {x : GX} {n0 sl0 : Nat} (X : Cx x cX16_frameIn RX16 none n0 sl0 16 384) {out : Mm} (hE : Ends x n0 sl0 none out) (hn : xn x = 3) (fu : Nat)   (a0 : Nat) (a1 : Int32) (s0 : Int32) (M : Mm) (h : fX16_frameIn_L64 fu  a0 a1 s0 M = some out) : Gw x M 64 [(0, pR (some a0)), (1, pI a1)] [pI s0] := by
  unfold fX16_frameIn_L64 at h
  refine g_istore_n X (pc := 64) [(2, pI s0), (0, pR (some a0)), (1, pI a1)] rfl (lt_n hn (by decide)) rfl dX16_frameIn_64 ?_
  refine g_iload_n X (pc := 65) 2 rfl rfl dX16_frameIn_65 ?_
  refine g_if_ne X (pc := 66) (tgt := 74) dX16_frameIn_66 (by decide) (fun hc => ?_) (fun hc => ?_)
  · have h := (if_neg hc).symm.trans h
    refine g_sub [1] [(0, pR (some a0))] rfl ?_
    exact wX16_frameIn_L74 X hE hn fu   a0 M h
  · have h := (if_pos hc).symm.trans h
    refine g_iload_n X (pc := 69) 0 rfl rfl dX16_frameIn_69 ?_
    refine g_if_ne X (pc := 70) (tgt := 74) dX16_frameIn_70 (by decide) (fun hc => ?_) (fun hc => ?_)
    · have h := (if_neg hc).symm.trans h
      refine g_sub [1] [(0, pR (some a0))] rfl ?_
      exact wX16_frameIn_L74 X hE hn fu   a0 M h
    · have h := (if_pos hc).symm.trans h
      obtain rfl := Option.some.inj h
      exact g_return X hE dX16_frameIn_73
theorem wX16_frameIn_L63 {x : GX} {n0 sl0 : Nat} (X : Cx x cX16_frameIn RX16 none n0 sl0 16 384) {out : Mm} (hE : Ends x n0 sl0 none out) (hn : xn x = 3) (fu : Nat)   (a0 : Nat) (a1 : Int32)  (M : Mm) (h : fX16_frameIn_L63 fu  a0 a1 M = some out) : Gw x M 63 [(0, pR (some a0)), (1, pI a1)] [] := by
  unfold fX16_frameIn_L63 at h
  refine g_iconst X (pc := 63) (v := 0) dX16_frameIn_63 (by decide) ?_
  exact wX16_frameIn_L64 X hE hn fu   a0 a1 (0 : Int32) M h
theorem wX16_frameIn_L39 {x : GX} {n0 sl0 : Nat} (X : Cx x cX16_frameIn RX16 none n0 sl0 16 384) {out : Mm} (hE : Ends x n0 sl0 none out) (hn : xn x = 3) (fu : Nat)   (a0 : Nat) (s0 : Int32) (M : Mm) (h : fX16_frameIn_L39 fu  a0 s0 M = some out) : Gw x M 39 [(0, pR (some a0))] [pI s0] := by
  unfold fX16_frameIn_L39 at h
  refine g_istore_n X (pc := 39) [(1, pI s0), (0, pR (some a0))] rfl (lt_n hn (by decide)) rfl dX16_frameIn_39 ?_
  refine g_aload_n X (pc := 40) 1 rfl rfl dX16_frameIn_40 ?_
  refine g_iconst X (pc := 41) (v := 0) dX16_frameIn_41 (by decide) ?_
  obtain ⟨q1, eq1, h⟩ := bd h
  obtain ⟨v3, M2, eM2, h⟩ := b2d h
  refine g_callV X (pc := 42) (M' := M2) (ro := some (pI v3)) (c := 16) rfl (by decide) (as := [pI (0 : Int32)]) (as' := [pI (0 : Int32)]) (st := []) eq1 (ctX16_trayHalf _ _ _ _ _ _ fu q1 (0 : Int32) M _ eM2) tb_2206 tb_2203 tb_2205 ts_93 tb_8 ⟨rfl, hyX16_trayHalf⟩ rfl rfl ⟨by decide, by decide⟩ (Nat.le_of_ble_eq_true rfl) dX16_frameIn_42 ?_
  refine g_ldc X (pc := 45) tb_1565 dX16_frameIn_45 ?_
  refine g_icmp_ne X (pc := 47) (tgt := 63) dX16_frameIn_47 (by decide) (fun hc => ?_) (fun hc => ?_)
  · have h := (if_neg hc).symm.trans h
    refine g_sub [1, 0] [(0, pR (some a0)), (1, pI s0)] rfl ?_
    exact wX16_frameIn_L63 X hE hn fu   a0 s0 M2 h
  · have h := (if_pos hc).symm.trans h
    refine g_aload_n X (pc := 50) 1 rfl rfl dX16_frameIn_50 ?_
    refine g_iconst X (pc := 51) (v := 2) dX16_frameIn_51 (by decide) ?_
    obtain ⟨q4, eq4, h⟩ := bd h
    obtain ⟨v6, M5, eM5, h⟩ := b2d h
    refine g_callV X (pc := 52) (M' := M5) (ro := some (pI v6)) (c := 16) rfl (by decide) (as := [pI (2 : Int32)]) (as' := [pI (2 : Int32)]) (st := []) eq4 (ctX16_trayWord _ _ _ _ _ _ fu q4 (2 : Int32) M2 _ eM5) tb_2210 tb_2207 tb_2209 ts_94 tb_8 ⟨rfl, hyX16_trayWord⟩ rfl rfl ⟨by decide, by decide⟩ (Nat.le_of_ble_eq_true rfl) dX16_frameIn_52 ?_
    refine g_iconst X (pc := 55) (v := (-1)) dX16_frameIn_55 (by decide) ?_
    refine g_icmp_ne X (pc := 56) (tgt := 63) dX16_frameIn_56 (by decide) (fun hc => ?_) (fun hc => ?_)
    · have h := (if_neg hc).symm.trans h
      refine g_sub [1, 0] [(0, pR (some a0)), (1, pI s0)] rfl ?_
      exact wX16_frameIn_L63 X hE hn fu   a0 s0 M5 h
    · have h := (if_pos hc).symm.trans h
      refine g_iconst X (pc := 59) (v := 1) dX16_frameIn_59 (by decide) ?_
      refine g_goto X (pc := 60) (tgt := 64) dX16_frameIn_60 (by decide) ?_
      refine g_sub [1, 0] [(0, pR (some a0)), (1, pI s0)] rfl ?_
      exact wX16_frameIn_L64 X hE hn fu   a0 s0 (1 : Int32) M5 h
theorem wX16_frameIn_L38 {x : GX} {n0 sl0 : Nat} (X : Cx x cX16_frameIn RX16 none n0 sl0 16 384) {out : Mm} (hE : Ends x n0 sl0 none out) (hn : xn x = 3) (fu : Nat)   (a0 : Nat)  (M : Mm) (h : fX16_frameIn_L38 fu  a0 M = some out) : Gw x M 38 [(0, pR (some a0))] [] := by
  unfold fX16_frameIn_L38 at h
  refine g_iconst X (pc := 38) (v := 0) dX16_frameIn_38 (by decide) ?_
  exact wX16_frameIn_L39 X hE hn fu   a0 (0 : Int32) M h
theorem wX16_frameIn {x : GX} {n0 sl0 : Nat} (X : Cx x cX16_frameIn RX16 none n0 sl0 16 384) {out : Mm} (hE : Ends x n0 sl0 none out) (hn : xn x = 3) (fu : Nat)   (a0 : Nat)  (M : Mm) (h : fX16_frameIn fu  a0 M = some out) : Gw x M 0 [(0, pR (some a0))] [] := by
  unfold fX16_frameIn at h
  refine g_aload_n X (pc := 0) 0 rfl rfl dX16_frameIn_0 ?_
  obtain ⟨v1, ev1, h⟩ := bd h
  refine g_getI X (pc := 1) fk_16_1 rfl rfl ev1 tb_1815 dX16_frameIn_1 ?_
  refine g_bipush X (pc := 4) (v := 14) dX16_frameIn_4 (by decide) ?_
  refine g_icmp_ge X (pc := 6) (tgt := 10) dX16_frameIn_6 (by decide) (fun hc => ?_) (fun hc => ?_)
  · have h := (if_pos hc).symm.trans h
    refine g_aload_n X (pc := 10) 0 rfl rfl dX16_frameIn_10 ?_
    refine g_iconst X (pc := 11) (v := 0) dX16_frameIn_11 (by decide) ?_
    obtain ⟨q2, eq2, h⟩ := bd h
    obtain ⟨v4, M3, eM3, h⟩ := b2d h
    refine g_callV X (pc := 12) (M' := M3) (ro := some (pI v4)) (c := 16) rfl (by decide) (as := [pI (0 : Int32)]) (as' := [pI (0 : Int32)]) (st := []) eq2 (ctX16_trayHalf _ _ _ _ _ _ fu q2 (0 : Int32) M _ eM3) tb_2206 tb_2203 tb_2205 ts_93 tb_8 ⟨rfl, hyX16_trayHalf⟩ rfl rfl ⟨by decide, by decide⟩ (Nat.le_of_ble_eq_true rfl) dX16_frameIn_12 ?_
    refine g_aload_n X (pc := 15) 0 rfl rfl dX16_frameIn_15 ?_
    obtain ⟨v5, ev5, h⟩ := bd h
    refine g_getI X (pc := 16) fk_16_8 rfl rfl ev5 tb_1822 dX16_frameIn_16 ?_
    refine g_icmp_ne X (pc := 19) (tgt := 38) dX16_frameIn_19 (by decide) (fun hc => ?_) (fun hc => ?_)
    · have h := (if_neg hc).symm.trans h
      exact wX16_frameIn_L38 X hE hn fu   a0 M3 h
    · have h := (if_pos hc).symm.trans h
      refine g_aload_n X (pc := 22) 0 rfl rfl dX16_frameIn_22 ?_
      refine g_iconst X (pc := 23) (v := 2) dX16_frameIn_23 (by decide) ?_
      obtain ⟨q6, eq6, h⟩ := bd h
      obtain ⟨v8, M7, eM7, h⟩ := b2d h
      refine g_callV X (pc := 24) (M' := M7) (ro := some (pI v8)) (c := 16) rfl (by decide) (as := [pI (2 : Int32)]) (as' := [pI (2 : Int32)]) (st := []) eq6 (ctX16_trayWord _ _ _ _ _ _ fu q6 (2 : Int32) M3 _ eM7) tb_2210 tb_2207 tb_2209 ts_94 tb_8 ⟨rfl, hyX16_trayWord⟩ rfl rfl ⟨by decide, by decide⟩ (Nat.le_of_ble_eq_true rfl) dX16_frameIn_24 ?_
      refine g_aload_n X (pc := 27) 0 rfl rfl dX16_frameIn_27 ?_
      obtain ⟨v9, ev9, h⟩ := bd h
      refine g_getI X (pc := 28) fk_16_9 rfl rfl ev9 tb_1823 dX16_frameIn_28 ?_
      refine g_icmp_ne X (pc := 31) (tgt := 38) dX16_frameIn_31 (by decide) (fun hc => ?_) (fun hc => ?_)
      · have h := (if_neg hc).symm.trans h
        exact wX16_frameIn_L38 X hE hn fu   a0 M7 h
      · have h := (if_pos hc).symm.trans h
        refine g_iconst X (pc := 34) (v := 1) dX16_frameIn_34 (by decide) ?_
        refine g_goto X (pc := 35) (tgt := 39) dX16_frameIn_35 (by decide) ?_
        exact wX16_frameIn_L39 X hE hn fu   a0 (1 : Int32) M7 h
  · have h := (if_neg hc).symm.trans h
    obtain rfl := Option.some.inj h
    exact g_return X hE dX16_frameIn_9
theorem hyX16_frameIn : yX16_frameIn.cls ≠ "java/lang/invoke/MethodHandle" ∧ yX16_frameIn.cls ≠ "java/lang/invoke/VarHandle" ∧ (parseMethodDescriptor yX16_frameIn.desc).map (fun d => d.parameters.length) = some 0 := ⟨by decide +kernel, by decide +kernel, by decide +kernel⟩
theorem ctX16_frameIn (l : Launch) (E : Nat → Nat) (D : va_G) (dA : Nat → ClassId) (lo : Nat) (H0 : Heap) (fu : Nat) (a0 : Nat) (M : Mm) (out : Mm) (h : fX16_frameIn fu a0 M = some out) : Ct l E D dA lo H0 yX16_frameIn cX16_frameIn 3 none 16 384 [pR (some a0)] M none out := by
  refine ct_of (by decide +kernel) (Nat.le_of_ble_eq_true rfl) ?_
  intro x hl he hd ha ho hh hn hin X hE
  exact wX16_frameIn X hE hn fu a0 M h
/-! WebHostModel.arrive(I)I -/
def fX16_arrive (fu : Nat)  (a0 : Nat) (a1 : Int32)  (M : Mm) : Option (Int32 × Mm) :=
    (rc M 16 (some a0)).bind fun q1 =>
    b2 (fX16_refused fu q1 a1 M) fun v3 M2 =>
    if 0 ≤ v3 then (
    (gI M2 16 1025 (some a0)).bind fun v4 =>
    if v4 = 0 then (
    some ((-3 : Int32), M2))
    else (
    (gI M2 16 1025 (some a0)).bind fun v5 =>
    if v5 ≤ (1514 : Int32) then (
    (gI M2 16 1047 (some a0)).bind fun v6 =>
    (rc M2 16 (some a0)).bind fun q7 =>
    (fX16_passTo fu q7 a1 M2).bind fun M8 =>
    (gR M8 16 1041 (some a0)).bind fun v9 =>
    (gA M8 101 v9 (0 : Int32)).bind fun v10 =>
    (pA M8 101 v9 (0 : Int32) (v10 + (1 : Int32))).bind fun M11 =>
    (rc M11 16 (some a0)).bind fun q12 =>
    (fX16_frameIn fu q12  M11).bind fun M13 =>
    (pF M13 16 1025 (some a0) (0 : Int32)).bind fun M14 =>
    (gI M14 16 1047 (some a0)).bind fun v15 =>
    some ((v15 - v6), M14))
    else (
    some ((-3 : Int32), M2))))
    else (
    some (v3, M2))
theorem dX16_arrive_0 : decode cX16_arrive 0 = .ok (.aload_n 0, 1) := by decide +kernel
theorem dX16_arrive_1 : decode cX16_arrive 1 = .ok (.iload_n 1, 1) := by decide +kernel
theorem dX16_arrive_2 : decode cX16_arrive 2 = .ok (.invokevirtual 597, 3) := by decide +kernel
theorem dX16_arrive_5 : decode cX16_arrive 5 = .ok (.istore_n 2, 1) := by decide +kernel
theorem dX16_arrive_6 : decode cX16_arrive 6 = .ok (.iload_n 2, 1) := by decide +kernel
theorem dX16_arrive_7 : decode cX16_arrive 7 = .ok (.ifCond .ge 5, 3) := by decide +kernel
theorem dX16_arrive_10 : decode cX16_arrive 10 = .ok (.iload_n 2, 1) := by decide +kernel
theorem dX16_arrive_11 : decode cX16_arrive 11 = .ok (.ireturn, 1) := by decide +kernel
theorem dX16_arrive_12 : decode cX16_arrive 12 = .ok (.aload_n 0, 1) := by decide +kernel
theorem dX16_arrive_13 : decode cX16_arrive 13 = .ok (.getfield 84, 3) := by decide +kernel
theorem dX16_arrive_16 : decode cX16_arrive 16 = .ok (.ifCond .eq 13, 3) := by decide +kernel
theorem dX16_arrive_19 : decode cX16_arrive 19 = .ok (.aload_n 0, 1) := by decide +kernel
theorem dX16_arrive_20 : decode cX16_arrive 20 = .ok (.getfield 84, 3) := by decide +kernel
theorem dX16_arrive_23 : decode cX16_arrive 23 = .ok (.sipush 1514, 3) := by decide +kernel
theorem dX16_arrive_26 : decode cX16_arrive 26 = .ok (.if_icmp .le 6, 3) := by decide +kernel
theorem dX16_arrive_29 : decode cX16_arrive 29 = .ok (.bipush (-3), 2) := by decide +kernel
theorem dX16_arrive_31 : decode cX16_arrive 31 = .ok (.ireturn, 1) := by decide +kernel
theorem dX16_arrive_32 : decode cX16_arrive 32 = .ok (.aload_n 0, 1) := by decide +kernel
theorem dX16_arrive_33 : decode cX16_arrive 33 = .ok (.getfield 137, 3) := by decide +kernel
theorem dX16_arrive_36 : decode cX16_arrive 36 = .ok (.istore_n 3, 1) := by decide +kernel
theorem dX16_arrive_37 : decode cX16_arrive 37 = .ok (.aload_n 0, 1) := by decide +kernel
theorem dX16_arrive_38 : decode cX16_arrive 38 = .ok (.iload_n 1, 1) := by decide +kernel
theorem dX16_arrive_39 : decode cX16_arrive 39 = .ok (.invokevirtual 600, 3) := by decide +kernel
theorem dX16_arrive_42 : decode cX16_arrive 42 = .ok (.aload_n 0, 1) := by decide +kernel
theorem dX16_arrive_43 : decode cX16_arrive 43 = .ok (.getfield 31, 3) := by decide +kernel
theorem dX16_arrive_46 : decode cX16_arrive 46 = .ok (.iconst 0, 1) := by decide +kernel
theorem dX16_arrive_47 : decode cX16_arrive 47 = .ok (.dup2, 1) := by decide +kernel
theorem dX16_arrive_48 : decode cX16_arrive 48 = .ok (.iaload, 1) := by decide +kernel
theorem dX16_arrive_49 : decode cX16_arrive 49 = .ok (.iconst 1, 1) := by decide +kernel
theorem dX16_arrive_50 : decode cX16_arrive 50 = .ok (.iadd, 1) := by decide +kernel
theorem dX16_arrive_51 : decode cX16_arrive 51 = .ok (.iastore, 1) := by decide +kernel
theorem dX16_arrive_52 : decode cX16_arrive 52 = .ok (.aload_n 0, 1) := by decide +kernel
theorem dX16_arrive_53 : decode cX16_arrive 53 = .ok (.invokevirtual 603, 3) := by decide +kernel
theorem dX16_arrive_56 : decode cX16_arrive 56 = .ok (.aload_n 0, 1) := by decide +kernel
theorem dX16_arrive_57 : decode cX16_arrive 57 = .ok (.iconst 0, 1) := by decide +kernel
theorem dX16_arrive_58 : decode cX16_arrive 58 = .ok (.putfield 84, 3) := by decide +kernel
theorem dX16_arrive_61 : decode cX16_arrive 61 = .ok (.aload_n 0, 1) := by decide +kernel
theorem dX16_arrive_62 : decode cX16_arrive 62 = .ok (.getfield 137, 3) := by decide +kernel
theorem dX16_arrive_65 : decode cX16_arrive 65 = .ok (.iload_n 3, 1) := by decide +kernel
theorem dX16_arrive_66 : decode cX16_arrive 66 = .ok (.isub, 1) := by decide +kernel
theorem dX16_arrive_67 : decode cX16_arrive 67 = .ok (.ireturn, 1) := by decide +kernel
theorem wX16_arrive {x : GX} {n0 sl0 : Nat} (X : Cx x cX16_arrive RX16 (some .int) n0 sl0 17 406) {out : Int32 × Mm} (hE : Ends x n0 sl0 (some (pI out.1)) out.2) (hn : xn x = 4) (fu : Nat)   (a0 : Nat) (a1 : Int32)  (M : Mm) (h : fX16_arrive fu  a0 a1 M = some out) : Gw x M 0 [(0, pR (some a0)), (1, pI a1)] [] := by
  unfold fX16_arrive at h
  refine g_aload_n X (pc := 0) 0 rfl rfl dX16_arrive_0 ?_
  refine g_iload_n X (pc := 1) 1 rfl rfl dX16_arrive_1 ?_
  obtain ⟨q1, eq1, h⟩ := bd h
  obtain ⟨v3, M2, eM2, h⟩ := b2d h
  refine g_callV X (pc := 2) (M' := M2) (ro := some (pI v3)) (c := 16) rfl (by decide) (as := [pI a1]) (as' := [pI a1]) (st := []) eq1 (ctX16_refused _ _ _ _ _ _ fu q1 a1 M _ eM2) tb_2047 tb_2044 tb_2046 ts_67 tb_8 ⟨rfl, hyX16_refused⟩ rfl rfl ⟨by decide, by decide⟩ (Nat.le_of_ble_eq_true rfl) dX16_arrive_2 ?_
  refine g_istore_n X (pc := 5) [(2, pI v3), (0, pR (some a0)), (1, pI a1)] rfl (lt_n hn (by decide)) rfl dX16_arrive_5 ?_
  refine g_iload_n X (pc := 6) 0 rfl rfl dX16_arrive_6 ?_
  refine g_if_ge X (pc := 7) (tgt := 12) dX16_arrive_7 (by decide) (fun hc => ?_) (fun hc => ?_)
  · have h := (if_pos hc).symm.trans h
    refine g_aload_n X (pc := 12) 1 rfl rfl dX16_arrive_12 ?_
    obtain ⟨v4, ev4, h⟩ := bd h
    refine g_getI X (pc := 13) fk_16_1 rfl rfl ev4 tb_1815 dX16_arrive_13 ?_
    refine g_if_eq X (pc := 16) (tgt := 29) dX16_arrive_16 (by decide) (fun hc => ?_) (fun hc => ?_)
    · have h := (if_pos hc).symm.trans h
      refine g_bipush X (pc := 29) (v := (-3)) dX16_arrive_29 (by decide) ?_
      obtain rfl := Option.some.inj h
      exact g_ireturn X hE dX16_arrive_31
    · have h := (if_neg hc).symm.trans h
      refine g_aload_n X (pc := 19) 1 rfl rfl dX16_arrive_19 ?_
      obtain ⟨v5, ev5, h⟩ := bd h
      refine g_getI X (pc := 20) fk_16_1 rfl rfl ev5 tb_1815 dX16_arrive_20 ?_
      refine g_sipush X (pc := 23) (v := 1514) dX16_arrive_23 (by decide) ?_
      refine g_icmp_le X (pc := 26) (tgt := 32) dX16_arrive_26 (by decide) (fun hc => ?_) (fun hc => ?_)
      · have h := (if_pos hc).symm.trans h
        refine g_aload_n X (pc := 32) 1 rfl rfl dX16_arrive_32 ?_
        obtain ⟨v6, ev6, h⟩ := bd h
        refine g_getI X (pc := 33) fk_16_23 rfl rfl ev6 tb_1837 dX16_arrive_33 ?_
        refine g_istore_n X (pc := 36) [(3, pI v6), (2, pI v3), (0, pR (some a0)), (1, pI a1)] rfl (lt_n hn (by decide)) rfl dX16_arrive_36 ?_
        refine g_aload_n X (pc := 37) 2 rfl rfl dX16_arrive_37 ?_
        refine g_iload_n X (pc := 38) 3 rfl rfl dX16_arrive_38 ?_
        obtain ⟨q7, eq7, h⟩ := bd h
        obtain ⟨M8, eM8, h⟩ := bd h
        refine g_callV X (pc := 39) (M' := M8) (ro := none) (c := 16) rfl (by decide) (as := [pI a1]) (as' := [pI a1]) (st := []) eq7 (ctX16_passTo _ _ _ _ _ _ fu q7 a1 M2 _ eM8) tb_2053 tb_2050 tb_2052 ts_68 tb_8 ⟨rfl, hyX16_passTo⟩ rfl rfl ⟨by decide, by decide⟩ (Nat.le_of_ble_eq_true rfl) dX16_arrive_39 ?_
        refine g_aload_n X (pc := 42) 2 rfl rfl dX16_arrive_42 ?_
        obtain ⟨v9, ev9, h⟩ := bd h
        refine g_getR X (pc := 43) fk_16_17 rfl rfl ev9 tb_1831 dX16_arrive_43 ?_
        refine g_iconst X (pc := 46) (v := 0) dX16_arrive_46 (by decide) ?_
        refine g_dup2 X (pc := 47) rfl rfl dX16_arrive_47 ?_
        obtain ⟨v10, ev10, h⟩ := bd h
        refine g_iaload X (pc := 48) ev10 dX16_arrive_48 ?_
        refine g_iconst X (pc := 49) (v := 1) dX16_arrive_49 (by decide) ?_
        refine g_iadd X (pc := 50) dX16_arrive_50 ?_
        obtain ⟨M11, eM11, h⟩ := bd h
        refine g_iastore X (pc := 51) eM11 dX16_arrive_51 ?_
        refine g_aload_n X (pc := 52) 2 rfl rfl dX16_arrive_52 ?_
        obtain ⟨q12, eq12, h⟩ := bd h
        obtain ⟨M13, eM13, h⟩ := bd h
        refine g_callV X (pc := 53) (M' := M13) (ro := none) (c := 16) rfl (by decide) (as := []) (as' := []) (st := []) eq12 (ctX16_frameIn _ _ _ _ _ _ fu q12  M11 _ eM13) tb_2202 tb_2199 tb_2201 ts_92 tb_8 ⟨rfl, hyX16_frameIn⟩ rfl rfl ⟨by decide, by decide⟩ (Nat.le_of_ble_eq_true rfl) dX16_arrive_53 ?_
        refine g_aload_n X (pc := 56) 2 rfl rfl dX16_arrive_56 ?_
        refine g_iconst X (pc := 57) (v := 0) dX16_arrive_57 (by decide) ?_
        obtain ⟨M14, eM14, h⟩ := bd h
        refine g_putI X (pc := 58) fk_16_1 rfl rfl rfl eM14 tb_1815 (Or.inl rfl) dX16_arrive_58 ?_
        refine g_aload_n X (pc := 61) 2 rfl rfl dX16_arrive_61 ?_
        obtain ⟨v15, ev15, h⟩ := bd h
        refine g_getI X (pc := 62) fk_16_23 rfl rfl ev15 tb_1837 dX16_arrive_62 ?_
        refine g_iload_n X (pc := 65) 0 rfl rfl dX16_arrive_65 ?_
        refine g_isub X (pc := 66) dX16_arrive_66 ?_
        obtain rfl := Option.some.inj h
        exact g_ireturn X hE dX16_arrive_67
      · have h := (if_neg hc).symm.trans h
        refine g_bipush X (pc := 29) (v := (-3)) dX16_arrive_29 (by decide) ?_
        obtain rfl := Option.some.inj h
        exact g_ireturn X hE dX16_arrive_31
  · have h := (if_neg hc).symm.trans h
    refine g_iload_n X (pc := 10) 0 rfl rfl dX16_arrive_10 ?_
    obtain rfl := Option.some.inj h
    exact g_ireturn X hE dX16_arrive_11
theorem hyX16_arrive : yX16_arrive.cls ≠ "java/lang/invoke/MethodHandle" ∧ yX16_arrive.cls ≠ "java/lang/invoke/VarHandle" ∧ (parseMethodDescriptor yX16_arrive.desc).map (fun d => d.parameters.length) = some 1 := ⟨by decide +kernel, by decide +kernel, by decide +kernel⟩
theorem ctX16_arrive (l : Launch) (E : Nat → Nat) (D : va_G) (dA : Nat → ClassId) (lo : Nat) (H0 : Heap) (fu : Nat) (a0 : Nat) (a1 : Int32) (M : Mm) (out : Int32 × Mm) (h : fX16_arrive fu a0 a1 M = some out) : Ct l E D dA lo H0 yX16_arrive cX16_arrive 4 (some .int) 17 406 [pR (some a0), pI a1] M (some (pI out.1)) out.2 := by
  refine ct_of (by decide +kernel) (Nat.le_of_ble_eq_true rfl) ?_
  intro x hl he hd ha ho hh hn hin X hE
  exact wX16_arrive X hE hn fu a0 a1 M h
/-! WebHostModel.pass(I)I -/
def fX16_pass (fu : Nat)  (a0 : Nat) (a1 : Int32)  (M : Mm) : Option (Int32 × Mm) :=
    (rc M 16 (some a0)).bind fun q1 =>
    b2 (fX16_refused fu q1 a1 M) fun v3 M2 =>
    if 0 ≤ v3 then (
    (gI M2 16 1047 (some a0)).bind fun v4 =>
    (rc M2 16 (some a0)).bind fun q5 =>
    (fX16_passTo fu q5 a1 M2).bind fun M6 =>
    (gI M6 16 1047 (some a0)).bind fun v7 =>
    some ((v7 - v4), M6))
    else (
    some (v3, M2))
theorem dX16_pass_0 : decode cX16_pass 0 = .ok (.aload_n 0, 1) := by decide +kernel
theorem dX16_pass_1 : decode cX16_pass 1 = .ok (.iload_n 1, 1) := by decide +kernel
theorem dX16_pass_2 : decode cX16_pass 2 = .ok (.invokevirtual 597, 3) := by decide +kernel
theorem dX16_pass_5 : decode cX16_pass 5 = .ok (.istore_n 2, 1) := by decide +kernel
theorem dX16_pass_6 : decode cX16_pass 6 = .ok (.iload_n 2, 1) := by decide +kernel
theorem dX16_pass_7 : decode cX16_pass 7 = .ok (.ifCond .ge 5, 3) := by decide +kernel
theorem dX16_pass_10 : decode cX16_pass 10 = .ok (.iload_n 2, 1) := by decide +kernel
theorem dX16_pass_11 : decode cX16_pass 11 = .ok (.ireturn, 1) := by decide +kernel
theorem dX16_pass_12 : decode cX16_pass 12 = .ok (.aload_n 0, 1) := by decide +kernel
theorem dX16_pass_13 : decode cX16_pass 13 = .ok (.getfield 137, 3) := by decide +kernel
theorem dX16_pass_16 : decode cX16_pass 16 = .ok (.istore_n 3, 1) := by decide +kernel
theorem dX16_pass_17 : decode cX16_pass 17 = .ok (.aload_n 0, 1) := by decide +kernel
theorem dX16_pass_18 : decode cX16_pass 18 = .ok (.iload_n 1, 1) := by decide +kernel
theorem dX16_pass_19 : decode cX16_pass 19 = .ok (.invokevirtual 600, 3) := by decide +kernel
theorem dX16_pass_22 : decode cX16_pass 22 = .ok (.aload_n 0, 1) := by decide +kernel
theorem dX16_pass_23 : decode cX16_pass 23 = .ok (.getfield 137, 3) := by decide +kernel
theorem dX16_pass_26 : decode cX16_pass 26 = .ok (.iload_n 3, 1) := by decide +kernel
theorem dX16_pass_27 : decode cX16_pass 27 = .ok (.isub, 1) := by decide +kernel
theorem dX16_pass_28 : decode cX16_pass 28 = .ok (.ireturn, 1) := by decide +kernel
theorem wX16_pass {x : GX} {n0 sl0 : Nat} (X : Cx x cX16_pass RX16 (some .int) n0 sl0 11 284) {out : Int32 × Mm} (hE : Ends x n0 sl0 (some (pI out.1)) out.2) (hn : xn x = 4) (fu : Nat)   (a0 : Nat) (a1 : Int32)  (M : Mm) (h : fX16_pass fu  a0 a1 M = some out) : Gw x M 0 [(0, pR (some a0)), (1, pI a1)] [] := by
  unfold fX16_pass at h
  refine g_aload_n X (pc := 0) 0 rfl rfl dX16_pass_0 ?_
  refine g_iload_n X (pc := 1) 1 rfl rfl dX16_pass_1 ?_
  obtain ⟨q1, eq1, h⟩ := bd h
  obtain ⟨v3, M2, eM2, h⟩ := b2d h
  refine g_callV X (pc := 2) (M' := M2) (ro := some (pI v3)) (c := 16) rfl (by decide) (as := [pI a1]) (as' := [pI a1]) (st := []) eq1 (ctX16_refused _ _ _ _ _ _ fu q1 a1 M _ eM2) tb_2047 tb_2044 tb_2046 ts_67 tb_8 ⟨rfl, hyX16_refused⟩ rfl rfl ⟨by decide, by decide⟩ (Nat.le_of_ble_eq_true rfl) dX16_pass_2 ?_
  refine g_istore_n X (pc := 5) [(2, pI v3), (0, pR (some a0)), (1, pI a1)] rfl (lt_n hn (by decide)) rfl dX16_pass_5 ?_
  refine g_iload_n X (pc := 6) 0 rfl rfl dX16_pass_6 ?_
  refine g_if_ge X (pc := 7) (tgt := 12) dX16_pass_7 (by decide) (fun hc => ?_) (fun hc => ?_)
  · have h := (if_pos hc).symm.trans h
    refine g_aload_n X (pc := 12) 1 rfl rfl dX16_pass_12 ?_
    obtain ⟨v4, ev4, h⟩ := bd h
    refine g_getI X (pc := 13) fk_16_23 rfl rfl ev4 tb_1837 dX16_pass_13 ?_
    refine g_istore_n X (pc := 16) [(3, pI v4), (2, pI v3), (0, pR (some a0)), (1, pI a1)] rfl (lt_n hn (by decide)) rfl dX16_pass_16 ?_
    refine g_aload_n X (pc := 17) 2 rfl rfl dX16_pass_17 ?_
    refine g_iload_n X (pc := 18) 3 rfl rfl dX16_pass_18 ?_
    obtain ⟨q5, eq5, h⟩ := bd h
    obtain ⟨M6, eM6, h⟩ := bd h
    refine g_callV X (pc := 19) (M' := M6) (ro := none) (c := 16) rfl (by decide) (as := [pI a1]) (as' := [pI a1]) (st := []) eq5 (ctX16_passTo _ _ _ _ _ _ fu q5 a1 M2 _ eM6) tb_2053 tb_2050 tb_2052 ts_68 tb_8 ⟨rfl, hyX16_passTo⟩ rfl rfl ⟨by decide, by decide⟩ (Nat.le_of_ble_eq_true rfl) dX16_pass_19 ?_
    refine g_aload_n X (pc := 22) 2 rfl rfl dX16_pass_22 ?_
    obtain ⟨v7, ev7, h⟩ := bd h
    refine g_getI X (pc := 23) fk_16_23 rfl rfl ev7 tb_1837 dX16_pass_23 ?_
    refine g_iload_n X (pc := 26) 0 rfl rfl dX16_pass_26 ?_
    refine g_isub X (pc := 27) dX16_pass_27 ?_
    obtain rfl := Option.some.inj h
    exact g_ireturn X hE dX16_pass_28
  · have h := (if_neg hc).symm.trans h
    refine g_iload_n X (pc := 10) 0 rfl rfl dX16_pass_10 ?_
    obtain rfl := Option.some.inj h
    exact g_ireturn X hE dX16_pass_11
theorem hyX16_pass : yX16_pass.cls ≠ "java/lang/invoke/MethodHandle" ∧ yX16_pass.cls ≠ "java/lang/invoke/VarHandle" ∧ (parseMethodDescriptor yX16_pass.desc).map (fun d => d.parameters.length) = some 1 := ⟨by decide +kernel, by decide +kernel, by decide +kernel⟩
theorem ctX16_pass (l : Launch) (E : Nat → Nat) (D : va_G) (dA : Nat → ClassId) (lo : Nat) (H0 : Heap) (fu : Nat) (a0 : Nat) (a1 : Int32) (M : Mm) (out : Int32 × Mm) (h : fX16_pass fu a0 a1 M = some out) : Ct l E D dA lo H0 yX16_pass cX16_pass 4 (some .int) 11 284 [pR (some a0), pI a1] M (some (pI out.1)) out.2 := by
  refine ct_of (by decide +kernel) (Nat.le_of_ble_eq_true rfl) ?_
  intro x hl he hd ha ho hh hn hin X hE
  exact wX16_pass X hE hn fu a0 a1 M h
/-! WebHostModel.now()I -/
def fX16_now (fu : Nat)  (a0 : Nat)  (M : Mm) : Option (Int32 × Mm) :=
    (gI M 16 1028 (some a0)).bind fun v1 =>
    if v1 = 0 then (
    some ((-1 : Int32), M))
    else (
    (gI M 16 1034 (some a0)).bind fun v2 =>
    some (v2, M))
theorem dX16_now_0 : decode cX16_now 0 = .ok (.aload_n 0, 1) := by decide +kernel
theorem dX16_now_1 : decode cX16_now 1 = .ok (.getfield 95, 3) := by decide +kernel
theorem dX16_now_4 : decode cX16_now 4 = .ok (.ifCond .eq 10, 3) := by decide +kernel
theorem dX16_now_7 : decode cX16_now 7 = .ok (.aload_n 0, 1) := by decide +kernel
theorem dX16_now_8 : decode cX16_now 8 = .ok (.getfield 134, 3) := by decide +kernel
theorem dX16_now_11 : decode cX16_now 11 = .ok (.goto 4, 3) := by decide +kernel
theorem dX16_now_14 : decode cX16_now 14 = .ok (.iconst (-1), 1) := by decide +kernel
theorem dX16_now_15 : decode cX16_now 15 = .ok (.ireturn, 1) := by decide +kernel
theorem wX16_now {x : GX} {n0 sl0 : Nat} (X : Cx x cX16_now RX16 (some .int) n0 sl0 0 0) {out : Int32 × Mm} (hE : Ends x n0 sl0 (some (pI out.1)) out.2) (hn : xn x = 1) (fu : Nat)   (a0 : Nat)  (M : Mm) (h : fX16_now fu  a0 M = some out) : Gw x M 0 [(0, pR (some a0))] [] := by
  unfold fX16_now at h
  refine g_aload_n X (pc := 0) 0 rfl rfl dX16_now_0 ?_
  obtain ⟨v1, ev1, h⟩ := bd h
  refine g_getI X (pc := 1) fk_16_4 rfl rfl ev1 tb_1818 dX16_now_1 ?_
  refine g_if_eq X (pc := 4) (tgt := 14) dX16_now_4 (by decide) (fun hc => ?_) (fun hc => ?_)
  · have h := (if_pos hc).symm.trans h
    refine g_iconst X (pc := 14) (v := (-1)) dX16_now_14 (by decide) ?_
    obtain rfl := Option.some.inj h
    exact g_ireturn X hE dX16_now_15
  · have h := (if_neg hc).symm.trans h
    refine g_aload_n X (pc := 7) 0 rfl rfl dX16_now_7 ?_
    obtain ⟨v2, ev2, h⟩ := bd h
    refine g_getI X (pc := 8) fk_16_10 rfl rfl ev2 tb_1824 dX16_now_8 ?_
    refine g_goto X (pc := 11) (tgt := 15) dX16_now_11 (by decide) ?_
    obtain rfl := Option.some.inj h
    exact g_ireturn X hE dX16_now_15
theorem hyX16_now : yX16_now.cls ≠ "java/lang/invoke/MethodHandle" ∧ yX16_now.cls ≠ "java/lang/invoke/VarHandle" ∧ (parseMethodDescriptor yX16_now.desc).map (fun d => d.parameters.length) = some 0 := ⟨by decide +kernel, by decide +kernel, by decide +kernel⟩
theorem ctX16_now (l : Launch) (E : Nat → Nat) (D : va_G) (dA : Nat → ClassId) (lo : Nat) (H0 : Heap) (fu : Nat) (a0 : Nat) (M : Mm) (out : Int32 × Mm) (h : fX16_now fu a0 M = some out) : Ct l E D dA lo H0 yX16_now cX16_now 1 (some .int) 0 0 [pR (some a0)] M (some (pI out.1)) out.2 := by
  refine ct_of (by decide +kernel) (Nat.le_of_ble_eq_true rfl) ?_
  intro x hl he hd ha ho hh hn hin X hE
  exact wX16_now X hE hn fu a0 M h
/-! WebHostModel.sent()I -/
def fX16_sent (fu : Nat)  (a0 : Nat)  (M : Mm) : Option (Int32 × Mm) :=
    (gI M 16 1028 (some a0)).bind fun v1 =>
    if v1 = 0 then (
    some ((-1 : Int32), M))
    else (
    (gI M 16 1047 (some a0)).bind fun v2 =>
    some (v2, M))
theorem dX16_sent_0 : decode cX16_sent 0 = .ok (.aload_n 0, 1) := by decide +kernel
theorem dX16_sent_1 : decode cX16_sent 1 = .ok (.getfield 95, 3) := by decide +kernel
theorem dX16_sent_4 : decode cX16_sent 4 = .ok (.ifCond .eq 10, 3) := by decide +kernel
theorem dX16_sent_7 : decode cX16_sent 7 = .ok (.aload_n 0, 1) := by decide +kernel
theorem dX16_sent_8 : decode cX16_sent 8 = .ok (.getfield 137, 3) := by decide +kernel
theorem dX16_sent_11 : decode cX16_sent 11 = .ok (.goto 4, 3) := by decide +kernel
theorem dX16_sent_14 : decode cX16_sent 14 = .ok (.iconst (-1), 1) := by decide +kernel
theorem dX16_sent_15 : decode cX16_sent 15 = .ok (.ireturn, 1) := by decide +kernel
theorem wX16_sent {x : GX} {n0 sl0 : Nat} (X : Cx x cX16_sent RX16 (some .int) n0 sl0 0 0) {out : Int32 × Mm} (hE : Ends x n0 sl0 (some (pI out.1)) out.2) (hn : xn x = 1) (fu : Nat)   (a0 : Nat)  (M : Mm) (h : fX16_sent fu  a0 M = some out) : Gw x M 0 [(0, pR (some a0))] [] := by
  unfold fX16_sent at h
  refine g_aload_n X (pc := 0) 0 rfl rfl dX16_sent_0 ?_
  obtain ⟨v1, ev1, h⟩ := bd h
  refine g_getI X (pc := 1) fk_16_4 rfl rfl ev1 tb_1818 dX16_sent_1 ?_
  refine g_if_eq X (pc := 4) (tgt := 14) dX16_sent_4 (by decide) (fun hc => ?_) (fun hc => ?_)
  · have h := (if_pos hc).symm.trans h
    refine g_iconst X (pc := 14) (v := (-1)) dX16_sent_14 (by decide) ?_
    obtain rfl := Option.some.inj h
    exact g_ireturn X hE dX16_sent_15
  · have h := (if_neg hc).symm.trans h
    refine g_aload_n X (pc := 7) 0 rfl rfl dX16_sent_7 ?_
    obtain ⟨v2, ev2, h⟩ := bd h
    refine g_getI X (pc := 8) fk_16_23 rfl rfl ev2 tb_1837 dX16_sent_8 ?_
    refine g_goto X (pc := 11) (tgt := 15) dX16_sent_11 (by decide) ?_
    obtain rfl := Option.some.inj h
    exact g_ireturn X hE dX16_sent_15
theorem hyX16_sent : yX16_sent.cls ≠ "java/lang/invoke/MethodHandle" ∧ yX16_sent.cls ≠ "java/lang/invoke/VarHandle" ∧ (parseMethodDescriptor yX16_sent.desc).map (fun d => d.parameters.length) = some 0 := ⟨by decide +kernel, by decide +kernel, by decide +kernel⟩
theorem ctX16_sent (l : Launch) (E : Nat → Nat) (D : va_G) (dA : Nat → ClassId) (lo : Nat) (H0 : Heap) (fu : Nat) (a0 : Nat) (M : Mm) (out : Int32 × Mm) (h : fX16_sent fu a0 M = some out) : Ct l E D dA lo H0 yX16_sent cX16_sent 1 (some .int) 0 0 [pR (some a0)] M (some (pI out.1)) out.2 := by
  refine ct_of (by decide +kernel) (Nat.le_of_ble_eq_true rfl) ?_
  intro x hl he hd ha ho hh hn hin X hE
  exact wX16_sent X hE hn fu a0 M h
/-! WebHostModel.slot(I)I -/
def fX16_slot (fu : Nat)  (a0 : Nat) (a1 : Int32)  (M : Mm) : Option (Int32 × Mm) :=
    (gI M 16 1028 (some a0)).bind fun v1 =>
    if v1 = 0 then (
    some ((-1 : Int32), M))
    else (
    if a1 < 0 then (
    some ((-1 : Int32), M))
    else (
    if (32 : Int32) ≤ a1 then (
    some ((-1 : Int32), M))
    else (
    (gI M 16 1047 (some a0)).bind fun v2 =>
    if v2 ≤ a1 then (
    some ((-1 : Int32), M))
    else (
    (gI M 16 1047 (some a0)).bind fun v3 =>
    some ((irm ((v3 - (1 : Int32)) - a1) (32 : Int32)), M)))))
theorem dX16_slot_0 : decode cX16_slot 0 = .ok (.aload_n 0, 1) := by decide +kernel
theorem dX16_slot_1 : decode cX16_slot 1 = .ok (.getfield 95, 3) := by decide +kernel
theorem dX16_slot_4 : decode cX16_slot 4 = .ok (.ifCond .eq 35, 3) := by decide +kernel
theorem dX16_slot_7 : decode cX16_slot 7 = .ok (.iload_n 1, 1) := by decide +kernel
theorem dX16_slot_8 : decode cX16_slot 8 = .ok (.ifCond .lt 31, 3) := by decide +kernel
theorem dX16_slot_11 : decode cX16_slot 11 = .ok (.iload_n 1, 1) := by decide +kernel
theorem dX16_slot_12 : decode cX16_slot 12 = .ok (.bipush 32, 2) := by decide +kernel
theorem dX16_slot_14 : decode cX16_slot 14 = .ok (.if_icmp .ge 25, 3) := by decide +kernel
theorem dX16_slot_17 : decode cX16_slot 17 = .ok (.iload_n 1, 1) := by decide +kernel
theorem dX16_slot_18 : decode cX16_slot 18 = .ok (.aload_n 0, 1) := by decide +kernel
theorem dX16_slot_19 : decode cX16_slot 19 = .ok (.getfield 137, 3) := by decide +kernel
theorem dX16_slot_22 : decode cX16_slot 22 = .ok (.if_icmp .ge 17, 3) := by decide +kernel
theorem dX16_slot_25 : decode cX16_slot 25 = .ok (.aload_n 0, 1) := by decide +kernel
theorem dX16_slot_26 : decode cX16_slot 26 = .ok (.getfield 137, 3) := by decide +kernel
theorem dX16_slot_29 : decode cX16_slot 29 = .ok (.iconst 1, 1) := by decide +kernel
theorem dX16_slot_30 : decode cX16_slot 30 = .ok (.isub, 1) := by decide +kernel
theorem dX16_slot_31 : decode cX16_slot 31 = .ok (.iload_n 1, 1) := by decide +kernel
theorem dX16_slot_32 : decode cX16_slot 32 = .ok (.isub, 1) := by decide +kernel
theorem dX16_slot_33 : decode cX16_slot 33 = .ok (.bipush 32, 2) := by decide +kernel
theorem dX16_slot_35 : decode cX16_slot 35 = .ok (.irem, 1) := by decide +kernel
theorem dX16_slot_36 : decode cX16_slot 36 = .ok (.goto 4, 3) := by decide +kernel
theorem dX16_slot_39 : decode cX16_slot 39 = .ok (.iconst (-1), 1) := by decide +kernel
theorem dX16_slot_40 : decode cX16_slot 40 = .ok (.ireturn, 1) := by decide +kernel
theorem wX16_slot {x : GX} {n0 sl0 : Nat} (X : Cx x cX16_slot RX16 (some .int) n0 sl0 0 0) {out : Int32 × Mm} (hE : Ends x n0 sl0 (some (pI out.1)) out.2) (hn : xn x = 2) (fu : Nat)   (a0 : Nat) (a1 : Int32)  (M : Mm) (h : fX16_slot fu  a0 a1 M = some out) : Gw x M 0 [(0, pR (some a0)), (1, pI a1)] [] := by
  unfold fX16_slot at h
  refine g_aload_n X (pc := 0) 0 rfl rfl dX16_slot_0 ?_
  obtain ⟨v1, ev1, h⟩ := bd h
  refine g_getI X (pc := 1) fk_16_4 rfl rfl ev1 tb_1818 dX16_slot_1 ?_
  refine g_if_eq X (pc := 4) (tgt := 39) dX16_slot_4 (by decide) (fun hc => ?_) (fun hc => ?_)
  · have h := (if_pos hc).symm.trans h
    refine g_iconst X (pc := 39) (v := (-1)) dX16_slot_39 (by decide) ?_
    obtain rfl := Option.some.inj h
    exact g_ireturn X hE dX16_slot_40
  · have h := (if_neg hc).symm.trans h
    refine g_iload_n X (pc := 7) 1 rfl rfl dX16_slot_7 ?_
    refine g_if_lt X (pc := 8) (tgt := 39) dX16_slot_8 (by decide) (fun hc => ?_) (fun hc => ?_)
    · have h := (if_pos hc).symm.trans h
      refine g_iconst X (pc := 39) (v := (-1)) dX16_slot_39 (by decide) ?_
      obtain rfl := Option.some.inj h
      exact g_ireturn X hE dX16_slot_40
    · have h := (if_neg hc).symm.trans h
      refine g_iload_n X (pc := 11) 1 rfl rfl dX16_slot_11 ?_
      refine g_bipush X (pc := 12) (v := 32) dX16_slot_12 (by decide) ?_
      refine g_icmp_ge X (pc := 14) (tgt := 39) dX16_slot_14 (by decide) (fun hc => ?_) (fun hc => ?_)
      · have h := (if_pos hc).symm.trans h
        refine g_iconst X (pc := 39) (v := (-1)) dX16_slot_39 (by decide) ?_
        obtain rfl := Option.some.inj h
        exact g_ireturn X hE dX16_slot_40
      · have h := (if_neg hc).symm.trans h
        refine g_iload_n X (pc := 17) 1 rfl rfl dX16_slot_17 ?_
        refine g_aload_n X (pc := 18) 0 rfl rfl dX16_slot_18 ?_
        obtain ⟨v2, ev2, h⟩ := bd h
        refine g_getI X (pc := 19) fk_16_23 rfl rfl ev2 tb_1837 dX16_slot_19 ?_
        refine g_icmp_ge X (pc := 22) (tgt := 39) dX16_slot_22 (by decide) (fun hc => ?_) (fun hc => ?_)
        · have h := (if_pos hc).symm.trans h
          refine g_iconst X (pc := 39) (v := (-1)) dX16_slot_39 (by decide) ?_
          obtain rfl := Option.some.inj h
          exact g_ireturn X hE dX16_slot_40
        · have h := (if_neg hc).symm.trans h
          refine g_aload_n X (pc := 25) 0 rfl rfl dX16_slot_25 ?_
          obtain ⟨v3, ev3, h⟩ := bd h
          refine g_getI X (pc := 26) fk_16_23 rfl rfl ev3 tb_1837 dX16_slot_26 ?_
          refine g_iconst X (pc := 29) (v := 1) dX16_slot_29 (by decide) ?_
          refine g_isub X (pc := 30) dX16_slot_30 ?_
          refine g_iload_n X (pc := 31) 1 rfl rfl dX16_slot_31 ?_
          refine g_isub X (pc := 32) dX16_slot_32 ?_
          refine g_bipush X (pc := 33) (v := 32) dX16_slot_33 (by decide) ?_
          refine g_irem X (pc := 35) (by decide) dX16_slot_35 ?_
          refine g_goto X (pc := 36) (tgt := 40) dX16_slot_36 (by decide) ?_
          obtain rfl := Option.some.inj h
          exact g_ireturn X hE dX16_slot_40
theorem hyX16_slot : yX16_slot.cls ≠ "java/lang/invoke/MethodHandle" ∧ yX16_slot.cls ≠ "java/lang/invoke/VarHandle" ∧ (parseMethodDescriptor yX16_slot.desc).map (fun d => d.parameters.length) = some 1 := ⟨by decide +kernel, by decide +kernel, by decide +kernel⟩
theorem ctX16_slot (l : Launch) (E : Nat → Nat) (D : va_G) (dA : Nat → ClassId) (lo : Nat) (H0 : Heap) (fu : Nat) (a0 : Nat) (a1 : Int32) (M : Mm) (out : Int32 × Mm) (h : fX16_slot fu a0 a1 M = some out) : Ct l E D dA lo H0 yX16_slot cX16_slot 2 (some .int) 0 0 [pR (some a0), pI a1] M (some (pI out.1)) out.2 := by
  refine ct_of (by decide +kernel) (Nat.le_of_ble_eq_true rfl) ?_
  intro x hl he hd ha ho hh hn hin X hE
  exact wX16_slot X hE hn fu a0 a1 M h
/-! WebHostModel.length(I)I -/
def fX16_length (fu : Nat)  (a0 : Nat) (a1 : Int32)  (M : Mm) : Option (Int32 × Mm) :=
    (rc M 16 (some a0)).bind fun q1 =>
    b2 (fX16_slot fu q1 a1 M) fun v3 M2 =>
    if 0 ≤ v3 then (
    (gR M2 16 1045 (some a0)).bind fun v4 =>
    (rc M2 16 (some a0)).bind fun q5 =>
    b2 (fX16_slot fu q5 a1 M2) fun v7 M6 =>
    (gA M6 101 v4 v7).bind fun v8 =>
    some (v8, M6))
    else (
    some ((-1 : Int32), M2))
theorem dX16_length_0 : decode cX16_length 0 = .ok (.aload_n 0, 1) := by decide +kernel
theorem dX16_length_1 : decode cX16_length 1 = .ok (.iload_n 1, 1) := by decide +kernel
theorem dX16_length_2 : decode cX16_length 2 = .ok (.invokevirtual 865, 3) := by decide +kernel
theorem dX16_length_5 : decode cX16_length 5 = .ok (.ifCond .ge 7, 3) := by decide +kernel
theorem dX16_length_8 : decode cX16_length 8 = .ok (.iconst (-1), 1) := by decide +kernel
theorem dX16_length_9 : decode cX16_length 9 = .ok (.goto 13, 3) := by decide +kernel
theorem dX16_length_12 : decode cX16_length 12 = .ok (.aload_n 0, 1) := by decide +kernel
theorem dX16_length_13 : decode cX16_length 13 = .ok (.getfield 41, 3) := by decide +kernel
theorem dX16_length_16 : decode cX16_length 16 = .ok (.aload_n 0, 1) := by decide +kernel
theorem dX16_length_17 : decode cX16_length 17 = .ok (.iload_n 1, 1) := by decide +kernel
theorem dX16_length_18 : decode cX16_length 18 = .ok (.invokevirtual 865, 3) := by decide +kernel
theorem dX16_length_21 : decode cX16_length 21 = .ok (.iaload, 1) := by decide +kernel
theorem dX16_length_22 : decode cX16_length 22 = .ok (.ireturn, 1) := by decide +kernel
theorem wX16_length {x : GX} {n0 sl0 : Nat} (X : Cx x cX16_length RX16 (some .int) n0 sl0 1 21) {out : Int32 × Mm} (hE : Ends x n0 sl0 (some (pI out.1)) out.2) (hn : xn x = 2) (fu : Nat)   (a0 : Nat) (a1 : Int32)  (M : Mm) (h : fX16_length fu  a0 a1 M = some out) : Gw x M 0 [(0, pR (some a0)), (1, pI a1)] [] := by
  unfold fX16_length at h
  refine g_aload_n X (pc := 0) 0 rfl rfl dX16_length_0 ?_
  refine g_iload_n X (pc := 1) 1 rfl rfl dX16_length_1 ?_
  obtain ⟨q1, eq1, h⟩ := bd h
  obtain ⟨v3, M2, eM2, h⟩ := b2d h
  refine g_callV X (pc := 2) (M' := M2) (ro := some (pI v3)) (c := 16) rfl (by decide) (as := [pI a1]) (as' := [pI a1]) (st := []) eq1 (ctX16_slot _ _ _ _ _ _ fu q1 a1 M _ eM2) tb_2507 tb_2504 tb_2506 ts_143 tb_8 ⟨rfl, hyX16_slot⟩ rfl rfl ⟨by decide, by decide⟩ (Nat.le_of_ble_eq_true rfl) dX16_length_2 ?_
  refine g_if_ge X (pc := 5) (tgt := 12) dX16_length_5 (by decide) (fun hc => ?_) (fun hc => ?_)
  · have h := (if_pos hc).symm.trans h
    refine g_aload_n X (pc := 12) 0 rfl rfl dX16_length_12 ?_
    obtain ⟨v4, ev4, h⟩ := bd h
    refine g_getR X (pc := 13) fk_16_21 rfl rfl ev4 tb_1835 dX16_length_13 ?_
    refine g_aload_n X (pc := 16) 0 rfl rfl dX16_length_16 ?_
    refine g_iload_n X (pc := 17) 1 rfl rfl dX16_length_17 ?_
    obtain ⟨q5, eq5, h⟩ := bd h
    obtain ⟨v7, M6, eM6, h⟩ := b2d h
    refine g_callV X (pc := 18) (M' := M6) (ro := some (pI v7)) (c := 16) rfl (by decide) (as := [pI a1]) (as' := [pI a1]) (st := [pR v4]) eq5 (ctX16_slot _ _ _ _ _ _ fu q5 a1 M2 _ eM6) tb_2507 tb_2504 tb_2506 ts_143 tb_8 ⟨rfl, hyX16_slot⟩ rfl rfl ⟨by decide, by decide⟩ (Nat.le_of_ble_eq_true rfl) dX16_length_18 ?_
    obtain ⟨v8, ev8, h⟩ := bd h
    refine g_iaload X (pc := 21) ev8 dX16_length_21 ?_
    obtain rfl := Option.some.inj h
    exact g_ireturn X hE dX16_length_22
  · have h := (if_neg hc).symm.trans h
    refine g_iconst X (pc := 8) (v := (-1)) dX16_length_8 (by decide) ?_
    refine g_goto X (pc := 9) (tgt := 22) dX16_length_9 (by decide) ?_
    obtain rfl := Option.some.inj h
    exact g_ireturn X hE dX16_length_22
theorem hyX16_length : yX16_length.cls ≠ "java/lang/invoke/MethodHandle" ∧ yX16_length.cls ≠ "java/lang/invoke/VarHandle" ∧ (parseMethodDescriptor yX16_length.desc).map (fun d => d.parameters.length) = some 1 := ⟨by decide +kernel, by decide +kernel, by decide +kernel⟩
theorem ctX16_length (l : Launch) (E : Nat → Nat) (D : va_G) (dA : Nat → ClassId) (lo : Nat) (H0 : Heap) (fu : Nat) (a0 : Nat) (a1 : Int32) (M : Mm) (out : Int32 × Mm) (h : fX16_length fu a0 a1 M = some out) : Ct l E D dA lo H0 yX16_length cX16_length 2 (some .int) 1 21 [pR (some a0), pI a1] M (some (pI out.1)) out.2 := by
  refine ct_of (by decide +kernel) (Nat.le_of_ble_eq_true rfl) ?_
  intro x hl he hd ha ho hh hn hin X hE
  exact wX16_length X hE hn fu a0 a1 M h
