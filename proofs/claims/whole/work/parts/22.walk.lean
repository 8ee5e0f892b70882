/-! ===== walks of methods, printed by a program of ours ===== -/
/-! WebHost$Connection.finGoes()V -/
def fX1_finGoes (fu : Nat)  (a0 : Nat)  (M : Mm) : Option (Mm) :=
    (gI M 1 64 (some a0)).bind fun v1 =>
    if v1 = (2 : Int32) then (
    (pF M 1 64 (some a0) (3 : Int32)).bind fun M4 =>
    some M4)
    else (
    (gI M 1 64 (some a0)).bind fun v2 =>
    if v2 = (7 : Int32) then (
    (pF M 1 64 (some a0) (8 : Int32)).bind fun M3 =>
    some M3)
    else (
    some M))
theorem dX1_finGoes_0 : decode cX1_finGoes 0 = .ok (.aload_n 0, 1) := by decide +kernel
theorem dX1_finGoes_1 : decode cX1_finGoes 1 = .ok (.getfield 29, 3) := by decide +kernel
theorem dX1_finGoes_4 : decode cX1_finGoes 4 = .ok (.iconst 2, 1) := by decide +kernel
theorem dX1_finGoes_5 : decode cX1_finGoes 5 = .ok (.if_icmp .ne 11, 3) := by decide +kernel
theorem dX1_finGoes_8 : decode cX1_finGoes 8 = .ok (.aload_n 0, 1) := by decide +kernel
theorem dX1_finGoes_9 : decode cX1_finGoes 9 = .ok (.iconst 3, 1) := by decide +kernel
theorem dX1_finGoes_10 : decode cX1_finGoes 10 = .ok (.putfield 29, 3) := by decide +kernel
theorem dX1_finGoes_13 : decode cX1_finGoes 13 = .ok (.goto 18, 3) := by decide +kernel
theorem dX1_finGoes_16 : decode cX1_finGoes 16 = .ok (.aload_n 0, 1) := by decide +kernel
theorem dX1_finGoes_17 : decode cX1_finGoes 17 = .ok (.getfield 29, 3) := by decide +kernel
theorem dX1_finGoes_20 : decode cX1_finGoes 20 = .ok (.bipush 7, 2) := by decide +kernel
theorem dX1_finGoes_22 : decode cX1_finGoes 22 = .ok (.if_icmp .ne 9, 3) := by decide +kernel
theorem dX1_finGoes_25 : decode cX1_finGoes 25 = .ok (.aload_n 0, 1) := by decide +kernel
theorem dX1_finGoes_26 : decode cX1_finGoes 26 = .ok (.bipush 8, 2) := by decide +kernel
theorem dX1_finGoes_28 : decode cX1_finGoes 28 = .ok (.putfield 29, 3) := by decide +kernel
theorem dX1_finGoes_31 : decode cX1_finGoes 31 = .ok (.return_, 1) := by decide +kernel
theorem wX1_finGoes {x : GX} {n0 sl0 : Nat} (X : Cx x cX1_finGoes RX1 none n0 sl0 0 0) {out : Mm} (hE : Ends x n0 sl0 none out) (hn : xn x = 1) (fu : Nat)   (a0 : Nat)  (M : Mm) (h : fX1_finGoes fu  a0 M = some out) : Gw x M 0 [(0, pR (some a0))] [] := by
  unfold fX1_finGoes at h
  refine g_aload_n X (pc := 0) 0 rfl rfl dX1_finGoes_0 ?_
  obtain ⟨v1, ev1, h⟩ := bd h
  refine g_getI X (pc := 1) fk_1_0 rfl rfl ev1 tb_957 dX1_finGoes_1 ?_
  refine g_iconst X (pc := 4) (v := 2) dX1_finGoes_4 (by decide) ?_
  refine g_icmp_ne X (pc := 5) (tgt := 16) dX1_finGoes_5 (by decide) (fun hc => ?_) (fun hc => ?_)
  · have h := (if_neg hc).symm.trans h
    refine g_aload_n X (pc := 16) 0 rfl rfl dX1_finGoes_16 ?_
    obtain ⟨v2, ev2, h⟩ := bd h
    refine g_getI X (pc := 17) fk_1_0 rfl rfl ev2 tb_957 dX1_finGoes_17 ?_
    refine g_bipush X (pc := 20) (v := 7) dX1_finGoes_20 (by decide) ?_
    refine g_icmp_ne X (pc := 22) (tgt := 31) dX1_finGoes_22 (by decide) (fun hc => ?_) (fun hc => ?_)
    · have h := (if_neg hc).symm.trans h
      obtain rfl := Option.some.inj h
      exact g_return X hE dX1_finGoes_31
    · have h := (if_pos hc).symm.trans h
      refine g_aload_n X (pc := 25) 0 rfl rfl dX1_finGoes_25 ?_
      refine g_bipush X (pc := 26) (v := 8) dX1_finGoes_26 (by decide) ?_
      obtain ⟨M3, eM3, h⟩ := bd h
      refine g_putI X (pc := 28) fk_1_0 rfl rfl rfl eM3 tb_957 (Or.inl rfl) dX1_finGoes_28 ?_
      obtain rfl := Option.some.inj h
      exact g_return X hE dX1_finGoes_31
  · have h := (if_pos hc).symm.trans h
    refine g_aload_n X (pc := 8) 0 rfl rfl dX1_finGoes_8 ?_
    refine g_iconst X (pc := 9) (v := 3) dX1_finGoes_9 (by decide) ?_
    obtain ⟨M4, eM4, h⟩ := bd h
    refine g_putI X (pc := 10) fk_1_0 rfl rfl rfl eM4 tb_957 (Or.inl rfl) dX1_finGoes_10 ?_
    refine g_goto X (pc := 13) (tgt := 31) dX1_finGoes_13 (by decide) ?_
    obtain rfl := Option.some.inj h
    exact g_return X hE dX1_finGoes_31
theorem hyX1_finGoes : yX1_finGoes.cls ≠ "java/lang/invoke/MethodHandle" ∧ yX1_finGoes.cls ≠ "java/lang/invoke/VarHandle" ∧ (parseMethodDescriptor yX1_finGoes.desc).map (fun d => d.parameters.length) = some 0 := ⟨by decide +kernel, by decide +kernel, by decide +kernel⟩
theorem ctX1_finGoes (l : Launch) (E : Nat → Nat) (D : va_G) (dA : Nat → ClassId) (lo : Nat) (H0 : Heap) (fu : Nat) (a0 : Nat) (M : Mm) (out : Mm) (h : fX1_finGoes fu a0 M = some out) : Ct l E D dA lo H0 yX1_finGoes cX1_finGoes 1 none 0 0 [pR (some a0)] M none out := by
  refine ct_of (by decide +kernel) (Nat.le_of_ble_eq_true rfl) ?_
  intro x hl he hd ha ho hh hn hin X hE
  exact wX1_finGoes X hE hn fu a0 M h
/-! WebHost$Connection.linger(I)V -/
def fX1_linger (fu : Nat)  (a0 : Nat) (a1 : Int32)  (M : Mm) : Option (Mm) :=
    (pF M 1 64 (some a0) (6 : Int32)).bind fun M1 =>
    (pF M1 1 72 (some a0) (a1 + (60000 : Int32))).bind fun M2 =>
    some M2
theorem dX1_linger_0 : decode cX1_linger 0 = .ok (.aload_n 0, 1) := by decide +kernel
theorem dX1_linger_1 : decode cX1_linger 1 = .ok (.bipush 6, 2) := by decide +kernel
theorem dX1_linger_3 : decode cX1_linger 3 = .ok (.putfield 29, 3) := by decide +kernel
theorem dX1_linger_6 : decode cX1_linger 6 = .ok (.aload_n 0, 1) := by decide +kernel
theorem dX1_linger_7 : decode cX1_linger 7 = .ok (.iload_n 1, 1) := by decide +kernel
theorem dX1_linger_8 : decode cX1_linger 8 = .ok (.ldc 144, 2) := by decide +kernel
theorem dX1_linger_10 : decode cX1_linger 10 = .ok (.iadd, 1) := by decide +kernel
theorem dX1_linger_11 : decode cX1_linger 11 = .ok (.putfield 145, 3) := by decide +kernel
theorem dX1_linger_14 : decode cX1_linger 14 = .ok (.return_, 1) := by decide +kernel
theorem wX1_linger {x : GX} {n0 sl0 : Nat} (X : Cx x cX1_linger RX1 none n0 sl0 0 0) {out : Mm} (hE : Ends x n0 sl0 none out) (hn : xn x = 2) (fu : Nat)   (a0 : Nat) (a1 : Int32)  (M : Mm) (h : fX1_linger fu  a0 a1 M = some out) : Gw x M 0 [(0, pR (some a0)), (1, pI a1)] [] := by
  unfold fX1_linger at h
  refine g_aload_n X (pc := 0) 0 rfl rfl dX1_linger_0 ?_
  refine g_bipush X (pc := 1) (v := 6) dX1_linger_1 (by decide) ?_
  obtain ⟨M1, eM1, h⟩ := bd h
  refine g_putI X (pc := 3) fk_1_0 rfl rfl rfl eM1 tb_957 (Or.inl rfl) dX1_linger_3 ?_
  refine g_aload_n X (pc := 6) 0 rfl rfl dX1_linger_6 ?_
  refine g_iload_n X (pc := 7) 1 rfl rfl dX1_linger_7 ?_
  refine g_ldc X (pc := 8) tb_1086 dX1_linger_8 ?_
  refine g_iadd X (pc := 10) dX1_linger_10 ?_
  obtain ⟨M2, eM2, h⟩ := bd h
  refine g_putI X (pc := 11) fk_1_8 rfl rfl rfl eM2 tb_976 (Or.inl rfl) dX1_linger_11 ?_
  obtain rfl := Option.some.inj h
  exact g_return X hE dX1_linger_14
theorem hyX1_linger : yX1_linger.cls ≠ "java/lang/invoke/MethodHandle" ∧ yX1_linger.cls ≠ "java/lang/invoke/VarHandle" ∧ (parseMethodDescriptor yX1_linger.desc).map (fun d => d.parameters.length) = some 1 := ⟨by decide +kernel, by decide +kernel, by decide +kernel⟩
theorem ctX1_linger (l : Launch) (E : Nat → Nat) (D : va_G) (dA : Nat → ClassId) (lo : Nat) (H0 : Heap) (fu : Nat) (a0 : Nat) (a1 : Int32) (M : Mm) (out : Mm) (h : fX1_linger fu a0 a1 M = some out) : Ct l E D dA lo H0 yX1_linger cX1_linger 2 none 0 0 [pR (some a0), pI a1] M none out := by
  refine ct_of (by decide +kernel) (Nat.le_of_ble_eq_true rfl) ?_
  intro x hl he hd ha ho hh hn hin X hE
  exact wX1_linger X hE hn fu a0 a1 M h
/-! WebHost$Connection.finIsAcknowledged(I)V -/
def fX1_finIsAcknowledged (fu : Nat)  (a0 : Nat) (a1 : Int32)  (M : Mm) : Option (Mm) :=
    (gI M 1 64 (some a0)).bind fun v1 =>
    if v1 = (3 : Int32) then (
    (pF M 1 64 (some a0) (4 : Int32)).bind fun M8 =>
    (pF M8 1 72 (some a0) (a1 + (60000 : Int32))).bind fun M9 =>
    some M9)
    else (
    (gI M 1 64 (some a0)).bind fun v2 =>
    if v2 = (5 : Int32) then (
    (rc M 1 (some a0)).bind fun q6 =>
    (fX1_linger fu q6 a1 M).bind fun M7 =>
    some M7)
    else (
    (gI M 1 64 (some a0)).bind fun v3 =>
    if v3 = (8 : Int32) then (
    (rc M 1 (some a0)).bind fun q4 =>
    (fX1_leave fu q4  M).bind fun M5 =>
    some M5)
    else (
    some M)))
theorem dX1_finIsAcknowledged_0 : decode cX1_finIsAcknowledged 0 = .ok (.aload_n 0, 1) := by decide +kernel
theorem dX1_finIsAcknowledged_1 : decode cX1_finIsAcknowledged 1 = .ok (.getfield 29, 3) := by decide +kernel
theorem dX1_finIsAcknowledged_4 : decode cX1_finIsAcknowledged 4 = .ok (.iconst 3, 1) := by decide +kernel
theorem dX1_finIsAcknowledged_5 : decode cX1_finIsAcknowledged 5 = .ok (.if_icmp .ne 19, 3) := by decide +kernel
theorem dX1_finIsAcknowledged_8 : decode cX1_finIsAcknowledged 8 = .ok (.aload_n 0, 1) := by decide +kernel
theorem dX1_finIsAcknowledged_9 : decode cX1_finIsAcknowledged 9 = .ok (.iconst 4, 1) := by decide +kernel
theorem dX1_finIsAcknowledged_10 : decode cX1_finIsAcknowledged 10 = .ok (.putfield 29, 3) := by decide +kernel
theorem dX1_finIsAcknowledged_13 : decode cX1_finIsAcknowledged 13 = .ok (.aload_n 0, 1) := by decide +kernel
theorem dX1_finIsAcknowledged_14 : decode cX1_finIsAcknowledged 14 = .ok (.iload_n 1, 1) := by decide +kernel
theorem dX1_finIsAcknowledged_15 : decode cX1_finIsAcknowledged 15 = .ok (.ldc 144, 2) := by decide +kernel
theorem dX1_finIsAcknowledged_17 : decode cX1_finIsAcknowledged 17 = .ok (.iadd, 1) := by decide +kernel
theorem dX1_finIsAcknowledged_18 : decode cX1_finIsAcknowledged 18 = .ok (.putfield 145, 3) := by decide +kernel
theorem dX1_finIsAcknowledged_21 : decode cX1_finIsAcknowledged 21 = .ok (.goto 32, 3) := by decide +kernel
theorem dX1_finIsAcknowledged_24 : decode cX1_finIsAcknowledged 24 = .ok (.aload_n 0, 1) := by decide +kernel
theorem dX1_finIsAcknowledged_25 : decode cX1_finIsAcknowledged 25 = .ok (.getfield 29, 3) := by decide +kernel
theorem dX1_finIsAcknowledged_28 : decode cX1_finIsAcknowledged 28 = .ok (.iconst 5, 1) := by decide +kernel
theorem dX1_finIsAcknowledged_29 : decode cX1_finIsAcknowledged 29 = .ok (.if_icmp .ne 11, 3) := by decide +kernel
theorem dX1_finIsAcknowledged_32 : decode cX1_finIsAcknowledged 32 = .ok (.aload_n 0, 1) := by decide +kernel
theorem dX1_finIsAcknowledged_33 : decode cX1_finIsAcknowledged 33 = .ok (.iload_n 1, 1) := by decide +kernel
theorem dX1_finIsAcknowledged_34 : decode cX1_finIsAcknowledged 34 = .ok (.invokevirtual 148, 3) := by decide +kernel
theorem dX1_finIsAcknowledged_37 : decode cX1_finIsAcknowledged 37 = .ok (.goto 16, 3) := by decide +kernel
theorem dX1_finIsAcknowledged_40 : decode cX1_finIsAcknowledged 40 = .ok (.aload_n 0, 1) := by decide +kernel
theorem dX1_finIsAcknowledged_41 : decode cX1_finIsAcknowledged 41 = .ok (.getfield 29, 3) := by decide +kernel
theorem dX1_finIsAcknowledged_44 : decode cX1_finIsAcknowledged 44 = .ok (.bipush 8, 2) := by decide +kernel
theorem dX1_finIsAcknowledged_46 : decode cX1_finIsAcknowledged 46 = .ok (.if_icmp .ne 7, 3) := by decide +kernel
theorem dX1_finIsAcknowledged_49 : decode cX1_finIsAcknowledged 49 = .ok (.aload_n 0, 1) := by decide +kernel
theorem dX1_finIsAcknowledged_50 : decode cX1_finIsAcknowledged 50 = .ok (.invokevirtual 151, 3) := by decide +kernel
theorem dX1_finIsAcknowledged_53 : decode cX1_finIsAcknowledged 53 = .ok (.return_, 1) := by decide +kernel
theorem wX1_finIsAcknowledged {x : GX} {n0 sl0 : Nat} (X : Cx x cX1_finIsAcknowledged RX1 none n0 sl0 1 21) {out : Mm} (hE : Ends x n0 sl0 none out) (hn : xn x = 2) (fu : Nat)   (a0 : Nat) (a1 : Int32)  (M : Mm) (h : fX1_finIsAcknowledged fu  a0 a1 M = some out) : Gw x M 0 [(0, pR (some a0)), (1, pI a1)] [] := by
  unfold fX1_finIsAcknowledged at h
  refine g_aload_n X (pc := 0) 0 rfl rfl dX1_finIsAcknowledged_0 ?_
  obtain ⟨v1, ev1, h⟩ := bd h
  refine g_getI X (pc := 1) fk_1_0 rfl rfl ev1 tb_957 dX1_finIsAcknowledged_1 ?_
  refine g_iconst X (pc := 4) (v := 3) dX1_finIsAcknowledged_4 (by decide) ?_
  refine g_icmp_ne X (pc := 5) (tgt := 24) dX1_finIsAcknowledged_5 (by decide) (fun hc => ?_) (fun hc => ?_)
  · have h := (if_neg hc).symm.trans h
    refine g_aload_n X (pc := 24) 0 rfl rfl dX1_finIsAcknowledged_24 ?_
    obtain ⟨v2, ev2, h⟩ := bd h
    refine g_getI X (pc := 25) fk_1_0 rfl rfl ev2 tb_957 dX1_finIsAcknowledged_25 ?_
    refine g_iconst X (pc := 28) (v := 5) dX1_finIsAcknowledged_28 (by decide) ?_
    refine g_icmp_ne X (pc := 29) (tgt := 40) dX1_finIsAcknowledged_29 (by decide) (fun hc => ?_) (fun hc => ?_)
    · have h := (if_neg hc).symm.trans h
      refine g_aload_n X (pc := 40) 0 rfl rfl dX1_finIsAcknowledged_40 ?_
      obtain ⟨v3, ev3, h⟩ := bd h
      refine g_getI X (pc := 41) fk_1_0 rfl rfl ev3 tb_957 dX1_finIsAcknowledged_41 ?_
      refine g_bipush X (pc := 44) (v := 8) dX1_finIsAcknowledged_44 (by decide) ?_
      refine g_icmp_ne X (pc := 46) (tgt := 53) dX1_finIsAcknowledged_46 (by decide) (fun hc => ?_) (fun hc => ?_)
      · have h := (if_neg hc).symm.trans h
        obtain rfl := Option.some.inj h
        exact g_return X hE dX1_finIsAcknowledged_53
      · have h := (if_pos hc).symm.trans h
        refine g_aload_n X (pc := 49) 0 rfl rfl dX1_finIsAcknowledged_49 ?_
        obtain ⟨q4, eq4, h⟩ := bd h
        obtain ⟨M5, eM5, h⟩ := bd h
        refine g_callV X (pc := 50) (M' := M5) (ro := none) (c := 1) rfl (by decide) (as := []) (as' := []) (st := []) eq4 (ctX1_leave _ _ _ _ _ _ fu q4  M _ eM5) tb_452 tb_701 tb_450 tb_451 tb_18 ⟨rfl, hyX1_leave⟩ rfl rfl ⟨by decide, by decide⟩ (Nat.le_of_ble_eq_true rfl) dX1_finIsAcknowledged_50 ?_
        obtain rfl := Option.some.inj h
        exact g_return X hE dX1_finIsAcknowledged_53
    · have h := (if_pos hc).symm.trans h
      refine g_aload_n X (pc := 32) 0 rfl rfl dX1_finIsAcknowledged_32 ?_
      refine g_iload_n X (pc := 33) 1 rfl rfl dX1_finIsAcknowledged_33 ?_
      obtain ⟨q6, eq6, h⟩ := bd h
      obtain ⟨M7, eM7, h⟩ := bd h
      refine g_callV X (pc := 34) (M' := M7) (ro := none) (c := 1) rfl (by decide) (as := [pI a1]) (as' := [pI a1]) (st := []) eq6 (ctX1_linger _ _ _ _ _ _ fu q6 a1 M _ eM7) tb_1085 tb_1135 tb_1083 tb_1084 tb_18 ⟨rfl, hyX1_linger⟩ rfl rfl ⟨by decide, by decide⟩ (Nat.le_of_ble_eq_true rfl) dX1_finIsAcknowledged_34 ?_
      refine g_goto X (pc := 37) (tgt := 53) dX1_finIsAcknowledged_37 (by decide) ?_
      obtain rfl := Option.some.inj h
      exact g_return X hE dX1_finIsAcknowledged_53
  · have h := (if_pos hc).symm.trans h
    refine g_aload_n X (pc := 8) 0 rfl rfl dX1_finIsAcknowledged_8 ?_
    refine g_iconst X (pc := 9) (v := 4) dX1_finIsAcknowledged_9 (by decide) ?_
    obtain ⟨M8, eM8, h⟩ := bd h
    refine g_putI X (pc := 10) fk_1_0 rfl rfl rfl eM8 tb_957 (Or.inl rfl) dX1_finIsAcknowledged_10 ?_
    refine g_aload_n X (pc := 13) 0 rfl rfl dX1_finIsAcknowledged_13 ?_
    refine g_iload_n X (pc := 14) 1 rfl rfl dX1_finIsAcknowledged_14 ?_
    refine g_ldc X (pc := 15) tb_1086 dX1_finIsAcknowledged_15 ?_
    refine g_iadd X (pc := 17) dX1_finIsAcknowledged_17 ?_
    obtain ⟨M9, eM9, h⟩ := bd h
    refine g_putI X (pc := 18) fk_1_8 rfl rfl rfl eM9 tb_976 (Or.inl rfl) dX1_finIsAcknowledged_18 ?_
    refine g_goto X (pc := 21) (tgt := 53) dX1_finIsAcknowledged_21 (by decide) ?_
    obtain rfl := Option.some.inj h
    exact g_return X hE dX1_finIsAcknowledged_53
theorem hyX1_finIsAcknowledged : yX1_finIsAcknowledged.cls ≠ "java/lang/invoke/MethodHandle" ∧ yX1_finIsAcknowledged.cls ≠ "java/lang/invoke/VarHandle" ∧ (parseMethodDescriptor yX1_finIsAcknowledged.desc).map (fun d => d.parameters.length) = some 1 := ⟨by decide +kernel, by decide +kernel, by decide +kernel⟩
theorem ctX1_finIsAcknowledged (l : Launch) (E : Nat → Nat) (D : va_G) (dA : Nat → ClassId) (lo : Nat) (H0 : Heap) (fu : Nat) (a0 : Nat) (a1 : Int32) (M : Mm) (out : Mm) (h : fX1_finIsAcknowledged fu a0 a1 M = some out) : Ct l E D dA lo H0 yX1_finIsAcknowledged cX1_finIsAcknowledged 2 none 1 21 [pR (some a0), pI a1] M none out := by
  refine ct_of (by decide +kernel) (Nat.le_of_ble_eq_true rfl) ?_
  intro x hl he hd ha ho hh hn hin X hE
  exact wX1_finIsAcknowledged X hE hn fu a0 a1 M h
/-! WebHost$Connection.otherSideEnds(I)V -/
def fX1_otherSideEnds (fu : Nat)  (a0 : Nat) (a1 : Int32)  (M : Mm) : Option (Mm) :=
    (gI M 1 64 (some a0)).bind fun v1 =>
    if v1 = (2 : Int32) then (
    (pF M 1 64 (some a0) (7 : Int32)).bind fun M7 =>
    some M7)
    else (
    (gI M 1 64 (some a0)).bind fun v2 =>
    if v2 = (3 : Int32) then (
    (pF M 1 64 (some a0) (5 : Int32)).bind fun M6 =>
    some M6)
    else (
    (gI M 1 64 (some a0)).bind fun v3 =>
    if v3 = (4 : Int32) then (
    (rc M 1 (some a0)).bind fun q4 =>
    (fX1_linger fu q4 a1 M).bind fun M5 =>
    some M5)
    else (
    some M)))
theorem dX1_otherSideEnds_0 : decode cX1_otherSideEnds 0 = .ok (.aload_n 0, 1) := by decide +kernel
theorem dX1_otherSideEnds_1 : decode cX1_otherSideEnds 1 = .ok (.getfield 29, 3) := by decide +kernel
theorem dX1_otherSideEnds_4 : decode cX1_otherSideEnds 4 = .ok (.iconst 2, 1) := by decide +kernel
theorem dX1_otherSideEnds_5 : decode cX1_otherSideEnds 5 = .ok (.if_icmp .ne 12, 3) := by decide +kernel
theorem dX1_otherSideEnds_8 : decode cX1_otherSideEnds 8 = .ok (.aload_n 0, 1) := by decide +kernel
theorem dX1_otherSideEnds_9 : decode cX1_otherSideEnds 9 = .ok (.bipush 7, 2) := by decide +kernel
theorem dX1_otherSideEnds_11 : decode cX1_otherSideEnds 11 = .ok (.putfield 29, 3) := by decide +kernel
theorem dX1_otherSideEnds_14 : decode cX1_otherSideEnds 14 = .ok (.goto 32, 3) := by decide +kernel
theorem dX1_otherSideEnds_17 : decode cX1_otherSideEnds 17 = .ok (.aload_n 0, 1) := by decide +kernel
theorem dX1_otherSideEnds_18 : decode cX1_otherSideEnds 18 = .ok (.getfield 29, 3) := by decide +kernel
theorem dX1_otherSideEnds_21 : decode cX1_otherSideEnds 21 = .ok (.iconst 3, 1) := by decide +kernel
theorem dX1_otherSideEnds_22 : decode cX1_otherSideEnds 22 = .ok (.if_icmp .ne 11, 3) := by decide +kernel
theorem dX1_otherSideEnds_25 : decode cX1_otherSideEnds 25 = .ok (.aload_n 0, 1) := by decide +kernel
theorem dX1_otherSideEnds_26 : decode cX1_otherSideEnds 26 = .ok (.iconst 5, 1) := by decide +kernel
theorem dX1_otherSideEnds_27 : decode cX1_otherSideEnds 27 = .ok (.putfield 29, 3) := by decide +kernel
theorem dX1_otherSideEnds_30 : decode cX1_otherSideEnds 30 = .ok (.goto 16, 3) := by decide +kernel
theorem dX1_otherSideEnds_33 : decode cX1_otherSideEnds 33 = .ok (.aload_n 0, 1) := by decide +kernel
theorem dX1_otherSideEnds_34 : decode cX1_otherSideEnds 34 = .ok (.getfield 29, 3) := by decide +kernel
theorem dX1_otherSideEnds_37 : decode cX1_otherSideEnds 37 = .ok (.iconst 4, 1) := by decide +kernel
theorem dX1_otherSideEnds_38 : decode cX1_otherSideEnds 38 = .ok (.if_icmp .ne 8, 3) := by decide +kernel
theorem dX1_otherSideEnds_41 : decode cX1_otherSideEnds 41 = .ok (.aload_n 0, 1) := by decide +kernel
theorem dX1_otherSideEnds_42 : decode cX1_otherSideEnds 42 = .ok (.iload_n 1, 1) := by decide +kernel
theorem dX1_otherSideEnds_43 : decode cX1_otherSideEnds 43 = .ok (.invokevirtual 148, 3) := by decide +kernel
theorem dX1_otherSideEnds_46 : decode cX1_otherSideEnds 46 = .ok (.return_, 1) := by decide +kernel
theorem wX1_otherSideEnds {x : GX} {n0 sl0 : Nat} (X : Cx x cX1_otherSideEnds RX1 none n0 sl0 1 21) {out : Mm} (hE : Ends x n0 sl0 none out) (hn : xn x = 2) (fu : Nat)   (a0 : Nat) (a1 : Int32)  (M : Mm) (h : fX1_otherSideEnds fu  a0 a1 M = some out) : Gw x M 0 [(0, pR (some a0)), (1, pI a1)] [] := by
  unfold fX1_otherSideEnds at h
  refine g_aload_n X (pc := 0) 0 rfl rfl dX1_otherSideEnds_0 ?_
  obtain ⟨v1, ev1, h⟩ := bd h
  refine g_getI X (pc := 1) fk_1_0 rfl rfl ev1 tb_957 dX1_otherSideEnds_1 ?_
  refine g_iconst X (pc := 4) (v := 2) dX1_otherSideEnds_4 (by decide) ?_
  refine g_icmp_ne X (pc := 5) (tgt := 17) dX1_otherSideEnds_5 (by decide) (fun hc => ?_) (fun hc => ?_)
  · have h := (if_neg hc).symm.trans h
    refine g_aload_n X (pc := 17) 0 rfl rfl dX1_otherSideEnds_17 ?_
    obtain ⟨v2, ev2, h⟩ := bd h
    refine g_getI X (pc := 18) fk_1_0 rfl rfl ev2 tb_957 dX1_otherSideEnds_18 ?_
    refine g_iconst X (pc := 21) (v := 3) dX1_otherSideEnds_21 (by decide) ?_
    refine g_icmp_ne X (pc := 22) (tgt := 33) dX1_otherSideEnds_22 (by decide) (fun hc => ?_) (fun hc => ?_)
    · have h := (if_neg hc).symm.trans h
      refine g_aload_n X (pc := 33) 0 rfl rfl dX1_otherSideEnds_33 ?_
      obtain ⟨v3, ev3, h⟩ := bd h
      refine g_getI X (pc := 34) fk_1_0 rfl rfl ev3 tb_957 dX1_otherSideEnds_34 ?_
      refine g_iconst X (pc := 37) (v := 4) dX1_otherSideEnds_37 (by decide) ?_
      refine g_icmp_ne X (pc := 38) (tgt := 46) dX1_otherSideEnds_38 (by decide) (fun hc => ?_) (fun hc => ?_)
      · have h := (if_neg hc).symm.trans h
        obtain rfl := Option.some.inj h
        exact g_return X hE dX1_otherSideEnds_46
      · have h := (if_pos hc).symm.trans h
        refine g_aload_n X (pc := 41) 0 rfl rfl dX1_otherSideEnds_41 ?_
        refine g_iload_n X (pc := 42) 1 rfl rfl dX1_otherSideEnds_42 ?_
        obtain ⟨q4, eq4, h⟩ := bd h
        obtain ⟨M5, eM5, h⟩ := bd h
        refine g_callV X (pc := 43) (M' := M5) (ro := none) (c := 1) rfl (by decide) (as := [pI a1]) (as' := [pI a1]) (st := []) eq4 (ctX1_linger _ _ _ _ _ _ fu q4 a1 M _ eM5) tb_1085 tb_1135 tb_1083 tb_1084 tb_18 ⟨rfl, hyX1_linger⟩ rfl rfl ⟨by decide, by decide⟩ (Nat.le_of_ble_eq_true rfl) dX1_otherSideEnds_43 ?_
        obtain rfl := Option.some.inj h
        exact g_return X hE dX1_otherSideEnds_46
    · have h := (if_pos hc).symm.trans h
      refine g_aload_n X (pc := 25) 0 rfl rfl dX1_otherSideEnds_25 ?_
      refine g_iconst X (pc := 26) (v := 5) dX1_otherSideEnds_26 (by decide) ?_
      obtain ⟨M6, eM6, h⟩ := bd h
      refine g_putI X (pc := 27) fk_1_0 rfl rfl rfl eM6 tb_957 (Or.inl rfl) dX1_otherSideEnds_27 ?_
      refine g_goto X (pc := 30) (tgt := 46) dX1_otherSideEnds_30 (by decide) ?_
      obtain rfl := Option.some.inj h
      exact g_return X hE dX1_otherSideEnds_46
  · have h := (if_pos hc).symm.trans h
    refine g_aload_n X (pc := 8) 0 rfl rfl dX1_otherSideEnds_8 ?_
    refine g_bipush X (pc := 9) (v := 7) dX1_otherSideEnds_9 (by decide) ?_
    obtain ⟨M7, eM7, h⟩ := bd h
    refine g_putI X (pc := 11) fk_1_0 rfl rfl rfl eM7 tb_957 (Or.inl rfl) dX1_otherSideEnds_11 ?_
    refine g_goto X (pc := 14) (tgt := 46) dX1_otherSideEnds_14 (by decide) ?_
    obtain rfl := Option.some.inj h
    exact g_return X hE dX1_otherSideEnds_46
theorem hyX1_otherSideEnds : yX1_otherSideEnds.cls ≠ "java/lang/invoke/MethodHandle" ∧ yX1_otherSideEnds.cls ≠ "java/lang/invoke/VarHandle" ∧ (parseMethodDescriptor yX1_otherSideEnds.desc).map (fun d => d.parameters.length) = some 1 := ⟨by decide +kernel, by decide +kernel, by decide +kernel⟩
theorem ctX1_otherSideEnds (l : Launch) (E : Nat → Nat) (D : va_G) (dA : Nat → ClassId) (lo : Nat) (H0 : Heap) (fu : Nat) (a0 : Nat) (a1 : Int32) (M : Mm) (out : Mm) (h : fX1_otherSideEnds fu a0 a1 M = some out) : Ct l E D dA lo H0 yX1_otherSideEnds cX1_otherSideEnds 2 none 1 21 [pR (some a0), pI a1] M none out := by
  refine ct_of (by decide +kernel) (Nat.le_of_ble_eq_true rfl) ?_
  intro x hl he hd ha ho hh hn hin X hE
  exact wX1_otherSideEnds X hE hn fu a0 a1 M h
/-! WebHost$Connection.lifeDue()I -/
def fX1_lifeDue (fu : Nat)  (a0 : Nat)  (M : Mm) : Option (Int32 × Mm) :=
    (gI M 1 64 (some a0)).bind fun v1 =>
    if v1 = (4 : Int32) then (
    (gI M 1 72 (some a0)).bind fun v2 =>
    some (v2, M))
    else (
    (gI M 1 64 (some a0)).bind fun v3 =>
    if v3 = (6 : Int32) then (
    (gI M 1 72 (some a0)).bind fun v9 =>
    some (v9, M))
    else (
    (gI M 1 64 (some a0)).bind fun v4 =>
    if v4 = (2 : Int32) then (
    (rc M 1 (some a0)).bind fun q5 =>
    b2 (fX1_isBusy fu q5  M) fun v7 M6 =>
    if v7 = 0 then (
    (gI M6 1 73 (some a0)).bind fun v8 =>
    some ((v8 + (30000 : Int32)), M6))
    else (
    some ((2147483647 : Int32), M6)))
    else (
    some ((2147483647 : Int32), M))))
theorem dX1_lifeDue_0 : decode cX1_lifeDue 0 = .ok (.aload_n 0, 1) := by decide +kernel
theorem dX1_lifeDue_1 : decode cX1_lifeDue 1 = .ok (.getfield 29, 3) := by decide +kernel
theorem dX1_lifeDue_4 : decode cX1_lifeDue 4 = .ok (.iconst 4, 1) := by decide +kernel
theorem dX1_lifeDue_5 : decode cX1_lifeDue 5 = .ok (.if_icmp .eq 12, 3) := by decide +kernel
theorem dX1_lifeDue_8 : decode cX1_lifeDue 8 = .ok (.aload_n 0, 1) := by decide +kernel
theorem dX1_lifeDue_9 : decode cX1_lifeDue 9 = .ok (.getfield 29, 3) := by decide +kernel
theorem dX1_lifeDue_12 : decode cX1_lifeDue 12 = .ok (.bipush 6, 2) := by decide +kernel
theorem dX1_lifeDue_14 : decode cX1_lifeDue 14 = .ok (.if_icmp .ne 8, 3) := by decide +kernel
theorem dX1_lifeDue_17 : decode cX1_lifeDue 17 = .ok (.aload_n 0, 1) := by decide +kernel
theorem dX1_lifeDue_18 : decode cX1_lifeDue 18 = .ok (.getfield 145, 3) := by decide +kernel
theorem dX1_lifeDue_21 : decode cX1_lifeDue 21 = .ok (.ireturn, 1) := by decide +kernel
theorem dX1_lifeDue_22 : decode cX1_lifeDue 22 = .ok (.aload_n 0, 1) := by decide +kernel
theorem dX1_lifeDue_23 : decode cX1_lifeDue 23 = .ok (.getfield 29, 3) := by decide +kernel
theorem dX1_lifeDue_26 : decode cX1_lifeDue 26 = .ok (.iconst 2, 1) := by decide +kernel
theorem dX1_lifeDue_27 : decode cX1_lifeDue 27 = .ok (.if_icmp .ne 21, 3) := by decide +kernel
theorem dX1_lifeDue_30 : decode cX1_lifeDue 30 = .ok (.aload_n 0, 1) := by decide +kernel
theorem dX1_lifeDue_31 : decode cX1_lifeDue 31 = .ok (.invokevirtual 154, 3) := by decide +kernel
theorem dX1_lifeDue_34 : decode cX1_lifeDue 34 = .ok (.ifCond .ne 14, 3) := by decide +kernel
theorem dX1_lifeDue_37 : decode cX1_lifeDue 37 = .ok (.aload_n 0, 1) := by decide +kernel
theorem dX1_lifeDue_38 : decode cX1_lifeDue 38 = .ok (.getfield 158, 3) := by decide +kernel
theorem dX1_lifeDue_41 : decode cX1_lifeDue 41 = .ok (.sipush 30000, 3) := by decide +kernel
theorem dX1_lifeDue_44 : decode cX1_lifeDue 44 = .ok (.iadd, 1) := by decide +kernel
theorem dX1_lifeDue_45 : decode cX1_lifeDue 45 = .ok (.goto 5, 3) := by decide +kernel
theorem dX1_lifeDue_48 : decode cX1_lifeDue 48 = .ok (.ldc 100, 2) := by decide +kernel
theorem dX1_lifeDue_50 : decode cX1_lifeDue 50 = .ok (.ireturn, 1) := by decide +kernel
theorem wX1_lifeDue {x : GX} {n0 sl0 : Nat} (X : Cx x cX1_lifeDue RX1 (some .int) n0 sl0 3 60) {out : Int32 × Mm} (hE : Ends x n0 sl0 (some (pI out.1)) out.2) (hn : xn x = 1) (fu : Nat)   (a0 : Nat)  (M : Mm) (h : fX1_lifeDue fu  a0 M = some out) : Gw x M 0 [(0, pR (some a0))] [] := by
  unfold fX1_lifeDue at h
  refine g_aload_n X (pc := 0) 0 rfl rfl dX1_lifeDue_0 ?_
  obtain ⟨v1, ev1, h⟩ := bd h
  refine g_getI X (pc := 1) fk_1_0 rfl rfl ev1 tb_957 dX1_lifeDue_1 ?_
  refine g_iconst X (pc := 4) (v := 4) dX1_lifeDue_4 (by decide) ?_
  refine g_icmp_eq X (pc := 5) (tgt := 17) dX1_lifeDue_5 (by decide) (fun hc => ?_) (fun hc => ?_)
  · have h := (if_pos hc).symm.trans h
    refine g_aload_n X (pc := 17) 0 rfl rfl dX1_lifeDue_17 ?_
    obtain ⟨v2, ev2, h⟩ := bd h
    refine g_getI X (pc := 18) fk_1_8 rfl rfl ev2 tb_976 dX1_lifeDue_18 ?_
    obtain rfl := Option.some.inj h
    exact g_ireturn X hE dX1_lifeDue_21
  · have h := (if_neg hc).symm.trans h
    refine g_aload_n X (pc := 8) 0 rfl rfl dX1_lifeDue_8 ?_
    obtain ⟨v3, ev3, h⟩ := bd h
    refine g_getI X (pc := 9) fk_1_0 rfl rfl ev3 tb_957 dX1_lifeDue_9 ?_
    refine g_bipush X (pc := 12) (v := 6) dX1_lifeDue_12 (by decide) ?_
    refine g_icmp_ne X (pc := 14) (tgt := 22) dX1_lifeDue_14 (by decide) (fun hc => ?_) (fun hc => ?_)
    · have h := (if_neg hc).symm.trans h
      refine g_aload_n X (pc := 22) 0 rfl rfl dX1_lifeDue_22 ?_
      obtain ⟨v4, ev4, h⟩ := bd h
      refine g_getI X (pc := 23) fk_1_0 rfl rfl ev4 tb_957 dX1_lifeDue_23 ?_
      refine g_iconst X (pc := 26) (v := 2) dX1_lifeDue_26 (by decide) ?_
      refine g_icmp_ne X (pc := 27) (tgt := 48) dX1_lifeDue_27 (by decide) (fun hc => ?_) (fun hc => ?_)
      · have h := (if_neg hc).symm.trans h
        refine g_ldc X (pc := 48) tb_453 dX1_lifeDue_48 ?_
        obtain rfl := Option.some.inj h
        exact g_ireturn X hE dX1_lifeDue_50
      · have h := (if_pos hc).symm.trans h
        refine g_aload_n X (pc := 30) 0 rfl rfl dX1_lifeDue_30 ?_
        obtain ⟨q5, eq5, h⟩ := bd h
        obtain ⟨v7, M6, eM6, h⟩ := b2d h
        refine g_callV X (pc := 31) (M' := M6) (ro := some (pI v7)) (c := 1) rfl (by decide) (as := []) (as' := []) (st := []) eq5 (ctX1_isBusy _ _ _ _ _ _ fu q5  M _ eM6) tb_499 tb_496 tb_497 tb_498 tb_18 ⟨rfl, hyX1_isBusy⟩ rfl rfl ⟨by decide, by decide⟩ (Nat.le_of_ble_eq_true rfl) dX1_lifeDue_31 ?_
        refine g_if_ne X (pc := 34) (tgt := 48) dX1_lifeDue_34 (by decide) (fun hc => ?_) (fun hc => ?_)
        · have h := (if_neg hc).symm.trans h
          refine g_ldc X (pc := 48) tb_453 dX1_lifeDue_48 ?_
          obtain rfl := Option.some.inj h
          exact g_ireturn X hE dX1_lifeDue_50
        · have h := (if_pos hc).symm.trans h
          refine g_aload_n X (pc := 37) 0 rfl rfl dX1_lifeDue_37 ?_
          obtain ⟨v8, ev8, h⟩ := bd h
          refine g_getI X (pc := 38) fk_1_9 rfl rfl ev8 tb_978 dX1_lifeDue_38 ?_
          refine g_sipush X (pc := 41) (v := 30000) dX1_lifeDue_41 (by decide) ?_
          refine g_iadd X (pc := 44) dX1_lifeDue_44 ?_
          refine g_goto X (pc := 45) (tgt := 50) dX1_lifeDue_45 (by decide) ?_
          obtain rfl := Option.some.inj h
          exact g_ireturn X hE dX1_lifeDue_50
    · have h := (if_pos hc).symm.trans h
      refine g_aload_n X (pc := 17) 0 rfl rfl dX1_lifeDue_17 ?_
      obtain ⟨v9, ev9, h⟩ := bd h
      refine g_getI X (pc := 18) fk_1_8 rfl rfl ev9 tb_976 dX1_lifeDue_18 ?_
      obtain rfl := Option.some.inj h
      exact g_ireturn X hE dX1_lifeDue_21
theorem hyX1_lifeDue : yX1_lifeDue.cls ≠ "java/lang/invoke/MethodHandle" ∧ yX1_lifeDue.cls ≠ "java/lang/invoke/VarHandle" ∧ (parseMethodDescriptor yX1_lifeDue.desc).map (fun d => d.parameters.length) = some 0 := ⟨by decide +kernel, by decide +kernel, by decide +kernel⟩
theorem ctX1_lifeDue (l : Launch) (E : Nat → Nat) (D : va_G) (dA : Nat → ClassId) (lo : Nat) (H0 : Heap) (fu : Nat) (a0 : Nat) (M : Mm) (out : Int32 × Mm) (h : fX1_lifeDue fu a0 M = some out) : Ct l E D dA lo H0 yX1_lifeDue cX1_lifeDue 1 (some .int) 3 60 [pR (some a0)] M (some (pI out.1)) out.2 := by
  refine ct_of (by decide +kernel) (Nat.le_of_ble_eq_true rfl) ?_
  intro x hl he hd ha ho hh hn hin X hE
  exact wX1_lifeDue X hE hn fu a0 M h
/-! WebHost$Connection.endLife()V -/
def fX1_endLife (fu : Nat)  (a0 : Nat)  (M : Mm) : Option (Mm) :=
    (gI M 1 64 (some a0)).bind fun v1 =>
    if v1 = (2 : Int32) then (
    (pZ M 1 74 (some a0) (1 : Int32)).bind fun M4 =>
    some M4)
    else (
    (rc M 1 (some a0)).bind fun q2 =>
    (fX1_leave fu q2  M).bind fun M3 =>
    some M3)
theorem dX1_endLife_0 : decode cX1_endLife 0 = .ok (.aload_n 0, 1) := by decide +kernel
theorem dX1_endLife_1 : decode cX1_endLife 1 = .ok (.getfield 29, 3) := by decide +kernel
theorem dX1_endLife_4 : decode cX1_endLife 4 = .ok (.iconst 2, 1) := by decide +kernel
theorem dX1_endLife_5 : decode cX1_endLife 5 = .ok (.if_icmp .ne 11, 3) := by decide +kernel
theorem dX1_endLife_8 : decode cX1_endLife 8 = .ok (.aload_n 0, 1) := by decide +kernel
theorem dX1_endLife_9 : decode cX1_endLife 9 = .ok (.iconst 1, 1) := by decide +kernel
theorem dX1_endLife_10 : decode cX1_endLife 10 = .ok (.putfield 96, 3) := by decide +kernel
theorem dX1_endLife_13 : decode cX1_endLife 13 = .ok (.goto 7, 3) := by decide +kernel
theorem dX1_endLife_16 : decode cX1_endLife 16 = .ok (.aload_n 0, 1) := by decide +kernel
theorem dX1_endLife_17 : decode cX1_endLife 17 = .ok (.invokevirtual 151, 3) := by decide +kernel
theorem dX1_endLife_20 : decode cX1_endLife 20 = .ok (.return_, 1) := by decide +kernel
theorem wX1_endLife {x : GX} {n0 sl0 : Nat} (X : Cx x cX1_endLife RX1 none n0 sl0 1 20) {out : Mm} (hE : Ends x n0 sl0 none out) (hn : xn x = 1) (fu : Nat)   (a0 : Nat)  (M : Mm) (h : fX1_endLife fu  a0 M = some out) : Gw x M 0 [(0, pR (some a0))] [] := by
  unfold fX1_endLife at h
  refine g_aload_n X (pc := 0) 0 rfl rfl dX1_endLife_0 ?_
  obtain ⟨v1, ev1, h⟩ := bd h
  refine g_getI X (pc := 1) fk_1_0 rfl rfl ev1 tb_957 dX1_endLife_1 ?_
  refine g_iconst X (pc := 4) (v := 2) dX1_endLife_4 (by decide) ?_
  refine g_icmp_ne X (pc := 5) (tgt := 16) dX1_endLife_5 (by decide) (fun hc => ?_) (fun hc => ?_)
  · have h := (if_neg hc).symm.trans h
    refine g_aload_n X (pc := 16) 0 rfl rfl dX1_endLife_16 ?_
    obtain ⟨q2, eq2, h⟩ := bd h
    obtain ⟨M3, eM3, h⟩ := bd h
    refine g_callV X (pc := 17) (M' := M3) (ro := none) (c := 1) rfl (by decide) (as := []) (as' := []) (st := []) eq2 (ctX1_leave _ _ _ _ _ _ fu q2  M _ eM3) tb_452 tb_701 tb_450 tb_451 tb_18 ⟨rfl, hyX1_leave⟩ rfl rfl ⟨by decide, by decide⟩ (Nat.le_of_ble_eq_true rfl) dX1_endLife_17 ?_
    obtain rfl := Option.some.inj h
    exact g_return X hE dX1_endLife_20
  · have h := (if_pos hc).symm.trans h
    refine g_aload_n X (pc := 8) 0 rfl rfl dX1_endLife_8 ?_
    refine g_iconst X (pc := 9) (v := 1) dX1_endLife_9 (by decide) ?_
    obtain ⟨M4, eM4, h⟩ := bd h
    refine g_putZ X (pc := 10) fk_1_10 rfl rfl rfl eM4 tb_980 (Or.inl rfl) dX1_endLife_10 ?_
    refine g_goto X (pc := 13) (tgt := 20) dX1_endLife_13 (by decide) ?_
    obtain rfl := Option.some.inj h
    exact g_return X hE dX1_endLife_20
theorem hyX1_endLife : yX1_endLife.cls ≠ "java/lang/invoke/MethodHandle" ∧ yX1_endLife.cls ≠ "java/lang/invoke/VarHandle" ∧ (parseMethodDescriptor yX1_endLife.desc).map (fun d => d.parameters.length) = some 0 := ⟨by decide +kernel, by decide +kernel, by decide +kernel⟩
theorem ctX1_endLife (l : Launch) (E : Nat → Nat) (D : va_G) (dA : Nat → ClassId) (lo : Nat) (H0 : Heap) (fu : Nat) (a0 : Nat) (M : Mm) (out : Mm) (h : fX1_endLife fu a0 M = some out) : Ct l E D dA lo H0 yX1_endLife cX1_endLife 1 none 1 20 [pR (some a0)] M none out := by
  refine ct_of (by decide +kernel) (Nat.le_of_ble_eq_true rfl) ?_
  intro x hl he hd ha ho hh hn hin X hE
  exact wX1_endLife X hE hn fu a0 M h
/-! WebHost$Connection.allows(II)Z -/
def fX1_allows_L71 (fu : Nat)  (a0 : Nat) (a1 : Int32) (a2 : Int32) (s0 : Int32) (M : Mm) : Option (Int32 × Mm) :=
    (gI M 1 64 (some a0)).bind fun v1 =>
    if v1 = 0 then (
    rN .boolean (0 : Int32) M)
    else (
    if s0 = 0 then (
    if a2 = 0 then (
    if (a1 &&& (1 : Int32)) = 0 then (
    rN .boolean (1 : Int32) M)
    else (
    rN .boolean (0 : Int32) M))
    else (
    rN .boolean (0 : Int32) M))
    else (
    rN .boolean (1 : Int32) M))
def fX1_allows_L66 (fu : Nat)  (a0 : Nat) (a1 : Int32) (a2 : Int32)  (M : Mm) : Option (Int32 × Mm) :=
    fX1_allows_L71 fu  a0 a1 a2 (1 : Int32) M
def fX1_allows (fu : Nat)  (a0 : Nat) (a1 : Int32) (a2 : Int32)  (M : Mm) : Option (Int32 × Mm) :=
    if (a1 &&& (2 : Int32)) = 0 then (
    (gI M 1 64 (some a0)).bind fun v1 =>
    if v1 = (2 : Int32) then (
    fX1_allows_L66 fu  a0 a1 a2 M)
    else (
    (gI M 1 64 (some a0)).bind fun v2 =>
    if v2 = (7 : Int32) then (
    fX1_allows_L66 fu  a0 a1 a2 M)
    else (
    (gI M 1 64 (some a0)).bind fun v3 =>
    if v3 = (3 : Int32) then (
    fX1_allows_L66 fu  a0 a1 a2 M)
    else (
    (gI M 1 64 (some a0)).bind fun v4 =>
    if v4 = (5 : Int32) then (
    fX1_allows_L66 fu  a0 a1 a2 M)
    else (
    (gI M 1 64 (some a0)).bind fun v5 =>
    if v5 = (8 : Int32) then (
    fX1_allows_L66 fu  a0 a1 a2 M)
    else (
    fX1_allows_L71 fu  a0 a1 a2 (0 : Int32) M))))))
    else (
    (gI M 1 64 (some a0)).bind fun v6 =>
    if v6 = (1 : Int32) then (
    if a2 = 0 then (
    rN .boolean (1 : Int32) M)
    else (
    rN .boolean (0 : Int32) M))
    else (
    rN .boolean (0 : Int32) M))
theorem dX1_allows_0 : decode cX1_allows 0 = .ok (.iload_n 1, 1) := by decide +kernel
theorem dX1_allows_1 : decode cX1_allows 1 = .ok (.iconst 2, 1) := by decide +kernel
theorem dX1_allows_2 : decode cX1_allows 2 = .ok (.iand, 1) := by decide +kernel
theorem dX1_allows_3 : decode cX1_allows 3 = .ok (.ifCond .eq 21, 3) := by decide +kernel
theorem dX1_allows_6 : decode cX1_allows 6 = .ok (.aload_n 0, 1) := by decide +kernel
theorem dX1_allows_7 : decode cX1_allows 7 = .ok (.getfield 29, 3) := by decide +kernel
theorem dX1_allows_10 : decode cX1_allows 10 = .ok (.iconst 1, 1) := by decide +kernel
theorem dX1_allows_11 : decode cX1_allows 11 = .ok (.if_icmp .ne 11, 3) := by decide +kernel
theorem dX1_allows_14 : decode cX1_allows 14 = .ok (.iload_n 2, 1) := by decide +kernel
theorem dX1_allows_15 : decode cX1_allows 15 = .ok (.ifCond .ne 7, 3) := by decide +kernel
theorem dX1_allows_18 : decode cX1_allows 18 = .ok (.iconst 1, 1) := by decide +kernel
theorem dX1_allows_19 : decode cX1_allows 19 = .ok (.goto 4, 3) := by decide +kernel
theorem dX1_allows_22 : decode cX1_allows 22 = .ok (.iconst 0, 1) := by decide +kernel
theorem dX1_allows_23 : decode cX1_allows 23 = .ok (.ireturn, 1) := by decide +kernel
theorem dX1_allows_24 : decode cX1_allows 24 = .ok (.aload_n 0, 1) := by decide +kernel
theorem dX1_allows_25 : decode cX1_allows 25 = .ok (.getfield 29, 3) := by decide +kernel
theorem dX1_allows_28 : decode cX1_allows 28 = .ok (.iconst 2, 1) := by decide +kernel
theorem dX1_allows_29 : decode cX1_allows 29 = .ok (.if_icmp .eq 37, 3) := by decide +kernel
theorem dX1_allows_32 : decode cX1_allows 32 = .ok (.aload_n 0, 1) := by decide +kernel
theorem dX1_allows_33 : decode cX1_allows 33 = .ok (.getfield 29, 3) := by decide +kernel
theorem dX1_allows_36 : decode cX1_allows 36 = .ok (.bipush 7, 2) := by decide +kernel
theorem dX1_allows_38 : decode cX1_allows 38 = .ok (.if_icmp .eq 28, 3) := by decide +kernel
theorem dX1_allows_41 : decode cX1_allows 41 = .ok (.aload_n 0, 1) := by decide +kernel
theorem dX1_allows_42 : decode cX1_allows 42 = .ok (.getfield 29, 3) := by decide +kernel
theorem dX1_allows_45 : decode cX1_allows 45 = .ok (.iconst 3, 1) := by decide +kernel
theorem dX1_allows_46 : decode cX1_allows 46 = .ok (.if_icmp .eq 20, 3) := by decide +kernel
theorem dX1_allows_49 : decode cX1_allows 49 = .ok (.aload_n 0, 1) := by decide +kernel
theorem dX1_allows_50 : decode cX1_allows 50 = .ok (.getfield 29, 3) := by decide +kernel
theorem dX1_allows_53 : decode cX1_allows 53 = .ok (.iconst 5, 1) := by decide +kernel
theorem dX1_allows_54 : decode cX1_allows 54 = .ok (.if_icmp .eq 12, 3) := by decide +kernel
theorem dX1_allows_57 : decode cX1_allows 57 = .ok (.aload_n 0, 1) := by decide +kernel
theorem dX1_allows_58 : decode cX1_allows 58 = .ok (.getfield 29, 3) := by decide +kernel
theorem dX1_allows_61 : decode cX1_allows 61 = .ok (.bipush 8, 2) := by decide +kernel
theorem dX1_allows_63 : decode cX1_allows 63 = .ok (.if_icmp .ne 7, 3) := by decide +kernel
theorem dX1_allows_66 : decode cX1_allows 66 = .ok (.iconst 1, 1) := by decide +kernel
theorem dX1_allows_67 : decode cX1_allows 67 = .ok (.goto 4, 3) := by decide +kernel
theorem dX1_allows_70 : decode cX1_allows 70 = .ok (.iconst 0, 1) := by decide +kernel
theorem dX1_allows_71 : decode cX1_allows 71 = .ok (.istore_n 3, 1) := by decide +kernel
theorem dX1_allows_72 : decode cX1_allows 72 = .ok (.aload_n 0, 1) := by decide +kernel
theorem dX1_allows_73 : decode cX1_allows 73 = .ok (.getfield 29, 3) := by decide +kernel
theorem dX1_allows_76 : decode cX1_allows 76 = .ok (.ifCond .eq 21, 3) := by decide +kernel
theorem dX1_allows_79 : decode cX1_allows 79 = .ok (.iload_n 3, 1) := by decide +kernel
theorem dX1_allows_80 : decode cX1_allows 80 = .ok (.ifCond .ne 13, 3) := by decide +kernel
theorem dX1_allows_83 : decode cX1_allows 83 = .ok (.iload_n 2, 1) := by decide +kernel
theorem dX1_allows_84 : decode cX1_allows 84 = .ok (.ifCond .ne 13, 3) := by decide +kernel
theorem dX1_allows_87 : decode cX1_allows 87 = .ok (.iload_n 1, 1) := by decide +kernel
theorem dX1_allows_88 : decode cX1_allows 88 = .ok (.iconst 1, 1) := by decide +kernel
theorem dX1_allows_89 : decode cX1_allows 89 = .ok (.iand, 1) := by decide +kernel
theorem dX1_allows_90 : decode cX1_allows 90 = .ok (.ifCond .ne 7, 3) := by decide +kernel
theorem dX1_allows_93 : decode cX1_allows 93 = .ok (.iconst 1, 1) := by decide +kernel
theorem dX1_allows_94 : decode cX1_allows 94 = .ok (.goto 4, 3) := by decide +kernel
theorem dX1_allows_97 : decode cX1_allows 97 = .ok (.iconst 0, 1) := by decide +kernel
theorem dX1_allows_98 : decode cX1_allows 98 = .ok (.ireturn, 1) := by decide +kernel
theorem wX1_allows_L71 {x : GX} {n0 sl0 : Nat} (X : Cx x cX1_allows RX1 (some .boolean) n0 sl0 0 0) {out : Int32 × Mm} (hE : Ends x n0 sl0 (some (pI out.1)) out.2) (hn : xn x = 4) (fu : Nat)   (a0 : Nat) (a1 : Int32) (a2 : Int32) (s0 : Int32) (M : Mm) (h : fX1_allows_L71 fu  a0 a1 a2 s0 M = some out) : Gw x M 71 [(0, pR (some a0)), (1, pI a1), (2, pI a2)] [pI s0] := by
  unfold fX1_allows_L71 at h
  refine g_istore_n X (pc := 71) [(3, pI s0), (0, pR (some a0)), (1, pI a1), (2, pI a2)] rfl (lt_n hn (by decide)) rfl dX1_allows_71 ?_
  refine g_aload_n X (pc := 72) 1 rfl rfl dX1_allows_72 ?_
  obtain ⟨v1, ev1, h⟩ := bd h
  refine g_getI X (pc := 73) fk_1_0 rfl rfl ev1 tb_957 dX1_allows_73 ?_
  refine g_if_eq X (pc := 76) (tgt := 97) dX1_allows_76 (by decide) (fun hc => ?_) (fun hc => ?_)
  · have h := (if_pos hc).symm.trans h
    refine g_iconst X (pc := 97) (v := 0) dX1_allows_97 (by decide) ?_
    obtain ⟨hz, rfl⟩ := rN_some h
    exact g_nreturn X rfl hz hE dX1_allows_98
  · have h := (if_neg hc).symm.trans h
    refine g_iload_n X (pc := 79) 0 rfl rfl dX1_allows_79 ?_
    refine g_if_ne X (pc := 80) (tgt := 93) dX1_allows_80 (by decide) (fun hc => ?_) (fun hc => ?_)
    · have h := (if_neg hc).symm.trans h
      refine g_iconst X (pc := 93) (v := 1) dX1_allows_93 (by decide) ?_
      refine g_goto X (pc := 94) (tgt := 98) dX1_allows_94 (by decide) ?_
      obtain ⟨hz, rfl⟩ := rN_some h
      exact g_nreturn X rfl hz hE dX1_allows_98
    · have h := (if_pos hc).symm.trans h
      refine g_iload_n X (pc := 83) 3 rfl rfl dX1_allows_83 ?_
      refine g_if_ne X (pc := 84) (tgt := 97) dX1_allows_84 (by decide) (fun hc => ?_) (fun hc => ?_)
      · have h := (if_neg hc).symm.trans h
        refine g_iconst X (pc := 97) (v := 0) dX1_allows_97 (by decide) ?_
        obtain ⟨hz, rfl⟩ := rN_some h
        exact g_nreturn X rfl hz hE dX1_allows_98
      · have h := (if_pos hc).symm.trans h
        refine g_iload_n X (pc := 87) 2 rfl rfl dX1_allows_87 ?_
        refine g_iconst X (pc := 88) (v := 1) dX1_allows_88 (by decide) ?_
        refine g_iand X (pc := 89) dX1_allows_89 ?_
        refine g_if_ne X (pc := 90) (tgt := 97) dX1_allows_90 (by decide) (fun hc => ?_) (fun hc => ?_)
        · have h := (if_neg hc).symm.trans h
          refine g_iconst X (pc := 97) (v := 0) dX1_allows_97 (by decide) ?_
          obtain ⟨hz, rfl⟩ := rN_some h
          exact g_nreturn X rfl hz hE dX1_allows_98
        · have h := (if_pos hc).symm.trans h
          refine g_iconst X (pc := 93) (v := 1) dX1_allows_93 (by decide) ?_
          refine g_goto X (pc := 94) (tgt := 98) dX1_allows_94 (by decide) ?_
          obtain ⟨hz, rfl⟩ := rN_some h
          exact g_nreturn X rfl hz hE dX1_allows_98
theorem wX1_allows_L66 {x : GX} {n0 sl0 : Nat} (X : Cx x cX1_allows RX1 (some .boolean) n0 sl0 0 0) {out : Int32 × Mm} (hE : Ends x n0 sl0 (some (pI out.1)) out.2) (hn : xn x = 4) (fu : Nat)   (a0 : Nat) (a1 : Int32) (a2 : Int32)  (M : Mm) (h : fX1_allows_L66 fu  a0 a1 a2 M = some out) : Gw x M 66 [(0, pR (some a0)), (1, pI a1), (2, pI a2)] [] := by
  unfold fX1_allows_L66 at h
  refine g_iconst X (pc := 66) (v := 1) dX1_allows_66 (by decide) ?_
  refine g_goto X (pc := 67) (tgt := 71) dX1_allows_67 (by decide) ?_
  exact wX1_allows_L71 X hE hn fu   a0 a1 a2 (1 : Int32) M h
theorem wX1_allows {x : GX} {n0 sl0 : Nat} (X : Cx x cX1_allows RX1 (some .boolean) n0 sl0 0 0) {out : Int32 × Mm} (hE : Ends x n0 sl0 (some (pI out.1)) out.2) (hn : xn x = 4) (fu : Nat)   (a0 : Nat) (a1 : Int32) (a2 : Int32)  (M : Mm) (h : fX1_allows fu  a0 a1 a2 M = some out) : Gw x M 0 [(0, pR (some a0)), (1, pI a1), (2, pI a2)] [] := by
  unfold fX1_allows at h
  refine g_iload_n X (pc := 0) 1 rfl rfl dX1_allows_0 ?_
  refine g_iconst X (pc := 1) (v := 2) dX1_allows_1 (by decide) ?_
  refine g_iand X (pc := 2) dX1_allows_2 ?_
  refine g_if_eq X (pc := 3) (tgt := 24) dX1_allows_3 (by decide) (fun hc => ?_) (fun hc => ?_)
  · have h := (if_pos hc).symm.trans h
    refine g_aload_n X (pc := 24) 0 rfl rfl dX1_allows_24 ?_
    obtain ⟨v1, ev1, h⟩ := bd h
    refine g_getI X (pc := 25) fk_1_0 rfl rfl ev1 tb_957 dX1_allows_25 ?_
    refine g_iconst X (pc := 28) (v := 2) dX1_allows_28 (by decide) ?_
    refine g_icmp_eq X (pc := 29) (tgt := 66) dX1_allows_29 (by decide) (fun hc => ?_) (fun hc => ?_)
    · have h := (if_pos hc).symm.trans h
      exact wX1_allows_L66 X hE hn fu   a0 a1 a2 M h
    · have h := (if_neg hc).symm.trans h
      refine g_aload_n X (pc := 32) 0 rfl rfl dX1_allows_32 ?_
      obtain ⟨v2, ev2, h⟩ := bd h
      refine g_getI X (pc := 33) fk_1_0 rfl rfl ev2 tb_957 dX1_allows_33 ?_
      refine g_bipush X (pc := 36) (v := 7) dX1_allows_36 (by decide) ?_
      refine g_icmp_eq X (pc := 38) (tgt := 66) dX1_allows_38 (by decide) (fun hc => ?_) (fun hc => ?_)
      · have h := (if_pos hc).symm.trans h
        exact wX1_allows_L66 X hE hn fu   a0 a1 a2 M h
      · have h := (if_neg hc).symm.trans h
        refine g_aload_n X (pc := 41) 0 rfl rfl dX1_allows_41 ?_
        obtain ⟨v3, ev3, h⟩ := bd h
        refine g_getI X (pc := 42) fk_1_0 rfl rfl ev3 tb_957 dX1_allows_42 ?_
        refine g_iconst X (pc := 45) (v := 3) dX1_allows_45 (by decide) ?_
        refine g_icmp_eq X (pc := 46) (tgt := 66) dX1_allows_46 (by decide) (fun hc => ?_) (fun hc => ?_)
        · have h := (if_pos hc).symm.trans h
          exact wX1_allows_L66 X hE hn fu   a0 a1 a2 M h
        · have h := (if_neg hc).symm.trans h
          refine g_aload_n X (pc := 49) 0 rfl rfl dX1_allows_49 ?_
          obtain ⟨v4, ev4, h⟩ := bd h
          refine g_getI X (pc := 50) fk_1_0 rfl rfl ev4 tb_957 dX1_allows_50 ?_
          refine g_iconst X (pc := 53) (v := 5) dX1_allows_53 (by decide) ?_
          refine g_icmp_eq X (pc := 54) (tgt := 66) dX1_allows_54 (by decide) (fun hc => ?_) (fun hc => ?_)
          · have h := (if_pos hc).symm.trans h
            exact wX1_allows_L66 X hE hn fu   a0 a1 a2 M h
          · have h := (if_neg hc).symm.trans h
            refine g_aload_n X (pc := 57) 0 rfl rfl dX1_allows_57 ?_
            obtain ⟨v5, ev5, h⟩ := bd h
            refine g_getI X (pc := 58) fk_1_0 rfl rfl ev5 tb_957 dX1_allows_58 ?_
            refine g_bipush X (pc := 61) (v := 8) dX1_allows_61 (by decide) ?_
            refine g_icmp_ne X (pc := 63) (tgt := 70) dX1_allows_63 (by decide) (fun hc => ?_) (fun hc => ?_)
            · have h := (if_neg hc).symm.trans h
              refine g_iconst X (pc := 70) (v := 0) dX1_allows_70 (by decide) ?_
              exact wX1_allows_L71 X hE hn fu   a0 a1 a2 (0 : Int32) M h
            · have h := (if_pos hc).symm.trans h
              exact wX1_allows_L66 X hE hn fu   a0 a1 a2 M h
  · have h := (if_neg hc).symm.trans h
    refine g_aload_n X (pc := 6) 0 rfl rfl dX1_allows_6 ?_
    obtain ⟨v6, ev6, h⟩ := bd h
    refine g_getI X (pc := 7) fk_1_0 rfl rfl ev6 tb_957 dX1_allows_7 ?_
    refine g_iconst X (pc := 10) (v := 1) dX1_allows_10 (by decide) ?_
    refine g_icmp_ne X (pc := 11) (tgt := 22) dX1_allows_11 (by decide) (fun hc => ?_) (fun hc => ?_)
    · have h := (if_neg hc).symm.trans h
      refine g_iconst X (pc := 22) (v := 0) dX1_allows_22 (by decide) ?_
      obtain ⟨hz, rfl⟩ := rN_some h
      exact g_nreturn X rfl hz hE dX1_allows_23
    · have h := (if_pos hc).symm.trans h
      refine g_iload_n X (pc := 14) 2 rfl rfl dX1_allows_14 ?_
      refine g_if_ne X (pc := 15) (tgt := 22) dX1_allows_15 (by decide) (fun hc => ?_) (fun hc => ?_)
      · have h := (if_neg hc).symm.trans h
        refine g_iconst X (pc := 22) (v := 0) dX1_allows_22 (by decide) ?_
        obtain ⟨hz, rfl⟩ := rN_some h
        exact g_nreturn X rfl hz hE dX1_allows_23
      · have h := (if_pos hc).symm.trans h
        refine g_iconst X (pc := 18) (v := 1) dX1_allows_18 (by decide) ?_
        refine g_goto X (pc := 19) (tgt := 23) dX1_allows_19 (by decide) ?_
        obtain ⟨hz, rfl⟩ := rN_some h
        exact g_nreturn X rfl hz hE dX1_allows_23
theorem hyX1_allows : yX1_allows.cls ≠ "java/lang/invoke/MethodHandle" ∧ yX1_allows.cls ≠ "java/lang/invoke/VarHandle" ∧ (parseMethodDescriptor yX1_allows.desc).map (fun d => d.parameters.length) = some 2 := ⟨by decide +kernel, by decide +kernel, by decide +kernel⟩
theorem ctX1_allows (l : Launch) (E : Nat → Nat) (D : va_G) (dA : Nat → ClassId) (lo : Nat) (H0 : Heap) (fu : Nat) (a0 : Nat) (a1 : Int32) (a2 : Int32) (M : Mm) (out : Int32 × Mm) (h : fX1_allows fu a0 a1 a2 M = some out) : Ct l E D dA lo H0 yX1_allows cX1_allows 4 (some .boolean) 0 0 [pR (some a0), pI a1, pI a2] M (some (pI out.1)) out.2 := by
  refine ct_of (by decide +kernel) (Nat.le_of_ble_eq_true rfl) ?_
  intro x hl he hd ha ho hh hn hin X hE
  exact wX1_allows X hE hn fu a0 a1 a2 M h
/-! WebHost$Connection.number(I)I -/
def fX1_number (fu : Nat)  (a0 : Nat) (a1 : Int32)  (M : Mm) : Option (Int32 × Mm) :=
    if a1 = (0 : Int32) then (
    (gI M 1 65 (some a0)).bind fun v1 =>
    some (v1, M))
    else (
    if a1 = (1 : Int32) then (
    (gI M 1 66 (some a0)).bind fun v2 =>
    some (v2, M))
    else (
    if a1 = (2 : Int32) then (
    (gI M 1 68 (some a0)).bind fun v3 =>
    some (v3, M))
    else (
    if a1 = (3 : Int32) then (
    (gI M 1 69 (some a0)).bind fun v4 =>
    some (v4, M))
    else (
    if a1 = (4 : Int32) then (
    (gI M 1 70 (some a0)).bind fun v5 =>
    some (v5, M))
    else (
    if a1 = (5 : Int32) then (
    (gR M 1 80 (some a0)).bind fun v6 =>
    (gI M 0 1 v6).bind fun v7 =>
    some (v7, M))
    else (
    if a1 = (6 : Int32) then (
    (gI M 1 71 (some a0)).bind fun v8 =>
    some (v8, M))
    else (
    if a1 = (7 : Int32) then (
    (gR M 1 81 (some a0)).bind fun v9 =>
    (gI M 5 321 v9).bind fun v10 =>
    some (v10, M))
    else (
    if a1 = (8 : Int32) then (
    (gR M 1 81 (some a0)).bind fun v11 =>
    (gI M 5 322 v11).bind fun v12 =>
    some (v12, M))
    else (
    if a1 = (9 : Int32) then (
    (gR M 1 81 (some a0)).bind fun v13 =>
    (gI M 5 323 v13).bind fun v14 =>
    some (v14, M))
    else (
    if a1 = (10 : Int32) then (
    (gR M 1 81 (some a0)).bind fun v15 =>
    (gI M 5 320 v15).bind fun v16 =>
    some (v16, M))
    else (
    if a1 = (11 : Int32) then (
    (gR M 1 80 (some a0)).bind fun v17 =>
    (rc M 0 v17).bind fun q18 =>
    b2 (fX0_held fu q18  M) fun v20 M19 =>
    some (v20, M19))
    else (
    if a1 = (12 : Int32) then (
    (rc M 1 (some a0)).bind fun q21 =>
    b2 (fX1_left fu q21  M) fun v23 M22 =>
    some (v23, M22))
    else (
    if a1 = (13 : Int32) then (
    (gR M 1 81 (some a0)).bind fun v24 =>
    (gI M 5 325 v24).bind fun v25 =>
    some (v25, M))
    else (
    (gR M 1 81 (some a0)).bind fun v26 =>
    (gI M 5 326 v26).bind fun v27 =>
    some (v27, M)))))))))))))))
theorem dX1_number_0 : decode cX1_number 0 = .ok (.iload_n 1, 1) := by decide +kernel
theorem dX1_number_1 : decode cX1_number 1 = .ok (.tableswitch 162 0 13 #[71, 76, 81, 86, 91, 96, 104, 109, 117, 125, 133, 141, 149, 154], 71) := by decide +kernel
theorem dX1_number_72 : decode cX1_number 72 = .ok (.aload_n 0, 1) := by decide +kernel
theorem dX1_number_73 : decode cX1_number 73 = .ok (.getfield 38, 3) := by decide +kernel
theorem dX1_number_76 : decode cX1_number 76 = .ok (.ireturn, 1) := by decide +kernel
theorem dX1_number_77 : decode cX1_number 77 = .ok (.aload_n 0, 1) := by decide +kernel
theorem dX1_number_78 : decode cX1_number 78 = .ok (.getfield 44, 3) := by decide +kernel
theorem dX1_number_81 : decode cX1_number 81 = .ok (.ireturn, 1) := by decide +kernel
theorem dX1_number_82 : decode cX1_number 82 = .ok (.aload_n 0, 1) := by decide +kernel
theorem dX1_number_83 : decode cX1_number 83 = .ok (.getfield 50, 3) := by decide +kernel
theorem dX1_number_86 : decode cX1_number 86 = .ok (.ireturn, 1) := by decide +kernel
theorem dX1_number_87 : decode cX1_number 87 = .ok (.aload_n 0, 1) := by decide +kernel
theorem dX1_number_88 : decode cX1_number 88 = .ok (.getfield 53, 3) := by decide +kernel
theorem dX1_number_91 : decode cX1_number 91 = .ok (.ireturn, 1) := by decide +kernel
theorem dX1_number_92 : decode cX1_number 92 = .ok (.aload_n 0, 1) := by decide +kernel
theorem dX1_number_93 : decode cX1_number 93 = .ok (.getfield 56, 3) := by decide +kernel
theorem dX1_number_96 : decode cX1_number 96 = .ok (.ireturn, 1) := by decide +kernel
theorem dX1_number_97 : decode cX1_number 97 = .ok (.aload_n 0, 1) := by decide +kernel
theorem dX1_number_98 : decode cX1_number 98 = .ok (.getfield 18, 3) := by decide +kernel
theorem dX1_number_101 : decode cX1_number 101 = .ok (.getfield 161, 3) := by decide +kernel
theorem dX1_number_104 : decode cX1_number 104 = .ok (.ireturn, 1) := by decide +kernel
theorem dX1_number_105 : decode cX1_number 105 = .ok (.aload_n 0, 1) := by decide +kernel
theorem dX1_number_106 : decode cX1_number 106 = .ok (.getfield 62, 3) := by decide +kernel
theorem dX1_number_109 : decode cX1_number 109 = .ok (.ireturn, 1) := by decide +kernel
theorem dX1_number_110 : decode cX1_number 110 = .ok (.aload_n 0, 1) := by decide +kernel
theorem dX1_number_111 : decode cX1_number 111 = .ok (.getfield 25, 3) := by decide +kernel
theorem dX1_number_114 : decode cX1_number 114 = .ok (.getfield 138, 3) := by decide +kernel
theorem dX1_number_117 : decode cX1_number 117 = .ok (.ireturn, 1) := by decide +kernel
theorem dX1_number_118 : decode cX1_number 118 = .ok (.aload_n 0, 1) := by decide +kernel
theorem dX1_number_119 : decode cX1_number 119 = .ok (.getfield 25, 3) := by decide +kernel
theorem dX1_number_122 : decode cX1_number 122 = .ok (.getfield 164, 3) := by decide +kernel
theorem dX1_number_125 : decode cX1_number 125 = .ok (.ireturn, 1) := by decide +kernel
theorem dX1_number_126 : decode cX1_number 126 = .ok (.aload_n 0, 1) := by decide +kernel
theorem dX1_number_127 : decode cX1_number 127 = .ok (.getfield 25, 3) := by decide +kernel
theorem dX1_number_130 : decode cX1_number 130 = .ok (.getfield 167, 3) := by decide +kernel
theorem dX1_number_133 : decode cX1_number 133 = .ok (.ireturn, 1) := by decide +kernel
theorem dX1_number_134 : decode cX1_number 134 = .ok (.aload_n 0, 1) := by decide +kernel
theorem dX1_number_135 : decode cX1_number 135 = .ok (.getfield 25, 3) := by decide +kernel
theorem dX1_number_138 : decode cX1_number 138 = .ok (.getfield 127, 3) := by decide +kernel
theorem dX1_number_141 : decode cX1_number 141 = .ok (.ireturn, 1) := by decide +kernel
theorem dX1_number_142 : decode cX1_number 142 = .ok (.aload_n 0, 1) := by decide +kernel
theorem dX1_number_143 : decode cX1_number 143 = .ok (.getfield 18, 3) := by decide +kernel
theorem dX1_number_146 : decode cX1_number 146 = .ok (.invokevirtual 170, 3) := by decide +kernel
theorem dX1_number_149 : decode cX1_number 149 = .ok (.ireturn, 1) := by decide +kernel
theorem dX1_number_150 : decode cX1_number 150 = .ok (.aload_n 0, 1) := by decide +kernel
theorem dX1_number_151 : decode cX1_number 151 = .ok (.invokevirtual 124, 3) := by decide +kernel
theorem dX1_number_154 : decode cX1_number 154 = .ok (.ireturn, 1) := by decide +kernel
theorem dX1_number_155 : decode cX1_number 155 = .ok (.aload_n 0, 1) := by decide +kernel
theorem dX1_number_156 : decode cX1_number 156 = .ok (.getfield 25, 3) := by decide +kernel
theorem dX1_number_159 : decode cX1_number 159 = .ok (.getfield 173, 3) := by decide +kernel
theorem dX1_number_162 : decode cX1_number 162 = .ok (.ireturn, 1) := by decide +kernel
theorem dX1_number_163 : decode cX1_number 163 = .ok (.aload_n 0, 1) := by decide +kernel
theorem dX1_number_164 : decode cX1_number 164 = .ok (.getfield 25, 3) := by decide +kernel
theorem dX1_number_167 : decode cX1_number 167 = .ok (.getfield 176, 3) := by decide +kernel
theorem dX1_number_170 : decode cX1_number 170 = .ok (.ireturn, 1) := by decide +kernel
theorem wX1_number {x : GX} {n0 sl0 : Nat} (X : Cx x cX1_number RX1 (some .int) n0 sl0 2 40) {out : Int32 × Mm} (hE : Ends x n0 sl0 (some (pI out.1)) out.2) (hn : xn x = 2) (fu : Nat)   (a0 : Nat) (a1 : Int32)  (M : Mm) (h : fX1_number fu  a0 a1 M = some out) : Gw x M 0 [(0, pR (some a0)), (1, pI a1)] [] := by
  unfold fX1_number at h
  refine g_iload_n X (pc := 0) 1 rfl rfl dX1_number_0 ?_
  by_cases hc0 : a1 = (0 : Int32)
  · have h := (if_pos hc0).symm.trans h
    refine g_tab X (pc := 1) 0 (tgt := 72) hc0 (by decide) (by decide) dX1_number_1 rfl (by decide) ?_
    refine g_aload_n X (pc := 72) 0 rfl rfl dX1_number_72 ?_
    obtain ⟨v1, ev1, h⟩ := bd h
    refine g_getI X (pc := 73) fk_1_1 rfl rfl ev1 tb_961 dX1_number_73 ?_
    obtain rfl := Option.some.inj h
    exact g_ireturn X hE dX1_number_76
  have h := (if_neg hc0).symm.trans h
  by_cases hc1 : a1 = (1 : Int32)
  · have h := (if_pos hc1).symm.trans h
    refine g_tab X (pc := 1) 1 (tgt := 77) hc1 (by decide) (by decide) dX1_number_1 rfl (by decide) ?_
    refine g_aload_n X (pc := 77) 0 rfl rfl dX1_number_77 ?_
    obtain ⟨v2, ev2, h⟩ := bd h
    refine g_getI X (pc := 78) fk_1_2 rfl rfl ev2 tb_963 dX1_number_78 ?_
    obtain rfl := Option.some.inj h
    exact g_ireturn X hE dX1_number_81
  have h := (if_neg hc1).symm.trans h
  by_cases hc2 : a1 = (2 : Int32)
  · have h := (if_pos hc2).symm.trans h
    refine g_tab X (pc := 1) 2 (tgt := 82) hc2 (by decide) (by decide) dX1_number_1 rfl (by decide) ?_
    refine g_aload_n X (pc := 82) 0 rfl rfl dX1_number_82 ?_
    obtain ⟨v3, ev3, h⟩ := bd h
    refine g_getI X (pc := 83) fk_1_4 rfl rfl ev3 tb_967 dX1_number_83 ?_
    obtain rfl := Option.some.inj h
    exact g_ireturn X hE dX1_number_86
  have h := (if_neg hc2).symm.trans h
  by_cases hc3 : a1 = (3 : Int32)
  · have h := (if_pos hc3).symm.trans h
    refine g_tab X (pc := 1) 3 (tgt := 87) hc3 (by decide) (by decide) dX1_number_1 rfl (by decide) ?_
    refine g_aload_n X (pc := 87) 0 rfl rfl dX1_number_87 ?_
    obtain ⟨v4, ev4, h⟩ := bd h
    refine g_getI X (pc := 88) fk_1_5 rfl rfl ev4 tb_969 dX1_number_88 ?_
    obtain rfl := Option.some.inj h
    exact g_ireturn X hE dX1_number_91
  have h := (if_neg hc3).symm.trans h
  by_cases hc4 : a1 = (4 : Int32)
  · have h := (if_pos hc4).symm.trans h
    refine g_tab X (pc := 1) 4 (tgt := 92) hc4 (by decide) (by decide) dX1_number_1 rfl (by decide) ?_
    refine g_aload_n X (pc := 92) 0 rfl rfl dX1_number_92 ?_
    obtain ⟨v5, ev5, h⟩ := bd h
    refine g_getI X (pc := 93) fk_1_6 rfl rfl ev5 tb_972 dX1_number_93 ?_
    obtain rfl := Option.some.inj h
    exact g_ireturn X hE dX1_number_96
  have h := (if_neg hc4).symm.trans h
  by_cases hc5 : a1 = (5 : Int32)
  · have h := (if_pos hc5).symm.trans h
    refine g_tab X (pc := 1) 5 (tgt := 97) hc5 (by decide) (by decide) dX1_number_1 rfl (by decide) ?_
    refine g_aload_n X (pc := 97) 0 rfl rfl dX1_number_97 ?_
    obtain ⟨v6, ev6, h⟩ := bd h
    refine g_getR X (pc := 98) fk_1_16 rfl rfl ev6 tb_993 dX1_number_98 ?_
    obtain ⟨v7, ev7, h⟩ := bd h
    refine g_getI X (pc := 101) fk_0_1 rfl rfl ev7 tb_862 dX1_number_101 ?_
    obtain rfl := Option.some.inj h
    exact g_ireturn X hE dX1_number_104
  have h := (if_neg hc5).symm.trans h
  by_cases hc6 : a1 = (6 : Int32)
  · have h := (if_pos hc6).symm.trans h
    refine g_tab X (pc := 1) 6 (tgt := 105) hc6 (by decide) (by decide) dX1_number_1 rfl (by decide) ?_
    refine g_aload_n X (pc := 105) 0 rfl rfl dX1_number_105 ?_
    obtain ⟨v8, ev8, h⟩ := bd h
    refine g_getI X (pc := 106) fk_1_7 rfl rfl ev8 tb_974 dX1_number_106 ?_
    obtain rfl := Option.some.inj h
    exact g_ireturn X hE dX1_number_109
  have h := (if_neg hc6).symm.trans h
  by_cases hc7 : a1 = (7 : Int32)
  · have h := (if_pos hc7).symm.trans h
    refine g_tab X (pc := 1) 7 (tgt := 110) hc7 (by decide) (by decide) dX1_number_1 rfl (by decide) ?_
    refine g_aload_n X (pc := 110) 0 rfl rfl dX1_number_110 ?_
    obtain ⟨v9, ev9, h⟩ := bd h
    refine g_getR X (pc := 111) fk_1_17 rfl rfl ev9 tb_996 dX1_number_111 ?_
    obtain ⟨v10, ev10, h⟩ := bd h
    refine g_getI X (pc := 114) fk_5_1 rfl rfl ev10 tb_904 dX1_number_114 ?_
    obtain rfl := Option.some.inj h
    exact g_ireturn X hE dX1_number_117
  have h := (if_neg hc7).symm.trans h
  by_cases hc8 : a1 = (8 : Int32)
  · have h := (if_pos hc8).symm.trans h
    refine g_tab X (pc := 1) 8 (tgt := 118) hc8 (by decide) (by decide) dX1_number_1 rfl (by decide) ?_
    refine g_aload_n X (pc := 118) 0 rfl rfl dX1_number_118 ?_
    obtain ⟨v11, ev11, h⟩ := bd h
    refine g_getR X (pc := 119) fk_1_17 rfl rfl ev11 tb_996 dX1_number_119 ?_
    obtain ⟨v12, ev12, h⟩ := bd h
    refine g_getI X (pc := 122) fk_5_2 rfl rfl ev12 tb_906 dX1_number_122 ?_
    obtain rfl := Option.some.inj h
    exact g_ireturn X hE dX1_number_125
  have h := (if_neg hc8).symm.trans h
  by_cases hc9 : a1 = (9 : Int32)
  · have h := (if_pos hc9).symm.trans h
    refine g_tab X (pc := 1) 9 (tgt := 126) hc9 (by decide) (by decide) dX1_number_1 rfl (by decide) ?_
    refine g_aload_n X (pc := 126) 0 rfl rfl dX1_number_126 ?_
    obtain ⟨v13, ev13, h⟩ := bd h
    refine g_getR X (pc := 127) fk_1_17 rfl rfl ev13 tb_996 dX1_number_127 ?_
    obtain ⟨v14, ev14, h⟩ := bd h
    refine g_getI X (pc := 130) fk_5_3 rfl rfl ev14 tb_909 dX1_number_130 ?_
    obtain rfl := Option.some.inj h
    exact g_ireturn X hE dX1_number_133
  have h := (if_neg hc9).symm.trans h
  by_cases hc10 : a1 = (10 : Int32)
  · have h := (if_pos hc10).symm.trans h
    refine g_tab X (pc := 1) 10 (tgt := 134) hc10 (by decide) (by decide) dX1_number_1 rfl (by decide) ?_
    refine g_aload_n X (pc := 134) 0 rfl rfl dX1_number_134 ?_
    obtain ⟨v15, ev15, h⟩ := bd h
    refine g_getR X (pc := 135) fk_1_17 rfl rfl ev15 tb_996 dX1_number_135 ?_
    obtain ⟨v16, ev16, h⟩ := bd h
    refine g_getI X (pc := 138) fk_5_0 rfl rfl ev16 tb_902 dX1_number_138 ?_
    obtain rfl := Option.some.inj h
    exact g_ireturn X hE dX1_number_141
  have h := (if_neg hc10).symm.trans h
  by_cases hc11 : a1 = (11 : Int32)
  · have h := (if_pos hc11).symm.trans h
    refine g_tab X (pc := 1) 11 (tgt := 142) hc11 (by decide) (by decide) dX1_number_1 rfl (by decide) ?_
    refine g_aload_n X (pc := 142) 0 rfl rfl dX1_number_142 ?_
    obtain ⟨v17, ev17, h⟩ := bd h
    refine g_getR X (pc := 143) fk_1_16 rfl rfl ev17 tb_993 dX1_number_143 ?_
    obtain ⟨q18, eq18, h⟩ := bd h
    obtain ⟨v20, M19, eM19, h⟩ := b2d h
    refine g_callV X (pc := 146) (M' := M19) (ro := some (pI v20)) (c := 0) rfl (by decide) (as := []) (as' := []) (st := []) eq18 (ctX0_held _ _ _ _ _ _ fu q18  M _ eM19) tb_605 tb_1530 tb_603 tb_604 tb_19 ⟨rfl, hyX0_held⟩ rfl rfl ⟨by decide, by decide⟩ (Nat.le_of_ble_eq_true rfl) dX1_number_146 ?_
    obtain rfl := Option.some.inj h
    exact g_ireturn X hE dX1_number_149
  have h := (if_neg hc11).symm.trans h
  by_cases hc12 : a1 = (12 : Int32)
  · have h := (if_pos hc12).symm.trans h
    refine g_tab X (pc := 1) 12 (tgt := 150) hc12 (by decide) (by decide) dX1_number_1 rfl (by decide) ?_
    refine g_aload_n X (pc := 150) 0 rfl rfl dX1_number_150 ?_
    obtain ⟨q21, eq21, h⟩ := bd h
    obtain ⟨v23, M22, eM22, h⟩ := b2d h
    refine g_callV X (pc := 151) (M' := M22) (ro := some (pI v23)) (c := 1) rfl (by decide) (as := []) (as' := []) (st := []) eq21 (ctX1_left _ _ _ _ _ _ fu q21  M _ eM22) tb_503 tb_500 tb_501 tb_502 tb_18 ⟨rfl, hyX1_left⟩ rfl rfl ⟨by decide, by decide⟩ (Nat.le_of_ble_eq_true rfl) dX1_number_151 ?_
    obtain rfl := Option.some.inj h
    exact g_ireturn X hE dX1_number_154
  have h := (if_neg hc12).symm.trans h
  by_cases hc13 : a1 = (13 : Int32)
  · have h := (if_pos hc13).symm.trans h
    refine g_tab X (pc := 1) 13 (tgt := 155) hc13 (by decide) (by decide) dX1_number_1 rfl (by decide) ?_
    refine g_aload_n X (pc := 155) 0 rfl rfl dX1_number_155 ?_
    obtain ⟨v24, ev24, h⟩ := bd h
    refine g_getR X (pc := 156) fk_1_17 rfl rfl ev24 tb_996 dX1_number_156 ?_
    obtain ⟨v25, ev25, h⟩ := bd h
    refine g_getI X (pc := 159) fk_5_5 rfl rfl ev25 tb_916 dX1_number_159 ?_
    obtain rfl := Option.some.inj h
    exact g_ireturn X hE dX1_number_162
  have h := (if_neg hc13).symm.trans h
  refine g_tabD X (pc := 1) 14 (tgt := 163) (by decide) ⟨⟨⟨⟨⟨⟨⟨⟨⟨⟨⟨⟨⟨⟨trivial, hc0⟩, hc1⟩, hc2⟩, hc3⟩, hc4⟩, hc5⟩, hc6⟩, hc7⟩, hc8⟩, hc9⟩, hc10⟩, hc11⟩, hc12⟩, hc13⟩ dX1_number_1 (by decide) ?_
  refine g_aload_n X (pc := 163) 0 rfl rfl dX1_number_163 ?_
  obtain ⟨v26, ev26, h⟩ := bd h
  refine g_getR X (pc := 164) fk_1_17 rfl rfl ev26 tb_996 dX1_number_164 ?_
  obtain ⟨v27, ev27, h⟩ := bd h
  refine g_getI X (pc := 167) fk_5_6 rfl rfl ev27 tb_919 dX1_number_167 ?_
  obtain rfl := Option.some.inj h
  exact g_ireturn X hE dX1_number_170
theorem hyX1_number : yX1_number.cls ≠ "java/lang/invoke/MethodHandle" ∧ yX1_number.cls ≠ "java/lang/invoke/VarHandle" ∧ (parseMethodDescriptor yX1_number.desc).map (fun d => d.parameters.length) = some 1 := ⟨by decide +kernel, by decide +kernel, by decide +kernel⟩
theorem ctX1_number (l : Launch) (E : Nat → Nat) (D : va_G) (dA : Nat → ClassId) (lo : Nat) (H0 : Heap) (fu : Nat) (a0 : Nat) (a1 : Int32) (M : Mm) (out : Int32 × Mm) (h : fX1_number fu a0 a1 M = some out) : Ct l E D dA lo H0 yX1_number cX1_number 2 (some .int) 2 40 [pR (some a0), pI a1] M (some (pI out.1)) out.2 := by
  refine ct_of (by decide +kernel) (Nat.le_of_ble_eq_true rfl) ?_
  intro x hl he hd ha ho hh hn hin X hE
  exact wX1_number X hE hn fu a0 a1 M h
/-! WebHost$Datagram.<init>()V -/
def fX2_init (fu : Nat)  (a0 : Nat)  (M : Mm) : Option (Mm) :=
    b2 (mkA M 100 (4096 : Int32)) fun v1 M2 =>
    (pG M2 2 128 (some a0) (some v1)).bind fun M3 =>
    b2 (mkA M3 101 (128 : Int32)) fun v4 M5 =>
    (pG M5 2 136 (some a0) (some v4)).bind fun M6 =>
    some M6
theorem dX2_init_0 : decode cX2_init 0 = .ok (.aload_n 0, 1) := by decide +kernel
theorem dX2_init_1 : decode cX2_init 1 = .ok (.invokespecial 1, 3) := by decide +kernel
theorem dX2_init_4 : decode cX2_init 4 = .ok (.aload_n 0, 1) := by decide +kernel
theorem dX2_init_5 : decode cX2_init 5 = .ok (.sipush 4096, 3) := by decide +kernel
theorem dX2_init_8 : decode cX2_init 8 = .ok (.newarray .byte, 2) := by decide +kernel
theorem dX2_init_10 : decode cX2_init 10 = .ok (.putfield 9, 3) := by decide +kernel
theorem dX2_init_13 : decode cX2_init 13 = .ok (.aload_n 0, 1) := by decide +kernel
theorem dX2_init_14 : decode cX2_init 14 = .ok (.sipush 128, 3) := by decide +kernel
theorem dX2_init_17 : decode cX2_init 17 = .ok (.newarray .int, 2) := by decide +kernel
theorem dX2_init_19 : decode cX2_init 19 = .ok (.putfield 13, 3) := by decide +kernel
theorem dX2_init_22 : decode cX2_init 22 = .ok (.return_, 1) := by decide +kernel
theorem wX2_init {x : GX} {n0 sl0 : Nat} (X : Cx x cX2_init RX2 none n0 sl0 1 12) {out : Mm} (hE : Ends x n0 sl0 none out) (hn : xn x = 1) (hin : (xt x).name = "<init>") (fu : Nat)   (a0 : Nat)  (M : Mm) (h : fX2_init fu  a0 M = some out) : Gw x M 0 [(0, pR (some a0))] [] := by
  unfold fX2_init at h
  refine g_aload_n X (pc := 0) 0 rfl rfl dX2_init_0 ?_
  refine g_objInit X (pc := 1) (o := (some a0)) ⟨_, rfl⟩ tb_742 tb_32 tb_33 ⟨by decide, Nat.le_of_ble_eq_true rfl⟩ dX2_init_1 ?_
  refine g_aload_n X (pc := 4) 0 rfl rfl dX2_init_4 ?_
  refine g_sipush X (pc := 5) (v := 4096) dX2_init_5 (by decide) ?_
  obtain ⟨v1, M2, eM2, h⟩ := b2d h
  refine g_newarray X (pc := 8) (at9 := .byte) (k := 0) rfl (by decide) rfl (by decide) (fun _ _ q => q) tb_53 eM2 dX2_init_8 ?_
  obtain ⟨M3, eM3, h⟩ := bd h
  refine g_putG X (pc := 10) fk_2_0 rfl rfl rfl eM3 tb_743 (Or.inr ⟨rfl, hin, rfl⟩) dX2_init_10 ?_
  refine g_aload_n X (pc := 13) 0 rfl rfl dX2_init_13 ?_
  refine g_sipush X (pc := 14) (v := 128) dX2_init_14 (by decide) ?_
  obtain ⟨v4, M5, eM5, h⟩ := b2d h
  refine g_newarray X (pc := 17) (at9 := .int) (k := 1) rfl (by decide) rfl (by decide) (fun _ _ q => q) tb_89 eM5 dX2_init_17 ?_
  obtain ⟨M6, eM6, h⟩ := bd h
  refine g_putG X (pc := 19) fk_2_8 rfl rfl rfl eM6 tb_754 (Or.inr ⟨rfl, hin, rfl⟩) dX2_init_19 ?_
  obtain rfl := Option.some.inj h
  exact g_return X hE dX2_init_22
theorem hyX2_init : yX2_init.cls ≠ "java/lang/invoke/MethodHandle" ∧ yX2_init.cls ≠ "java/lang/invoke/VarHandle" ∧ (parseMethodDescriptor yX2_init.desc).map (fun d => d.parameters.length) = some 0 := ⟨by decide +kernel, by decide +kernel, by decide +kernel⟩
theorem ctX2_init (l : Launch) (E : Nat → Nat) (D : va_G) (dA : Nat → ClassId) (lo : Nat) (H0 : Heap) (fu : Nat) (a0 : Nat) (M : Mm) (out : Mm) (h : fX2_init fu a0 M = some out) : Ct l E D dA lo H0 yX2_init cX2_init 1 none 1 12 [pR (some a0)] M none out := by
  refine ct_of (by decide +kernel) (Nat.le_of_ble_eq_true rfl) ?_
  intro x hl he hd ha ho hh hn hin X hE
  exact wX2_init X hE hn hin fu a0 M h
/-! WebHost$Datagram.begin(IIII)V -/
def fX2_begin (fu : Nat)  (a0 : Nat) (a1 : Int32) (a2 : Int32) (a3 : Int32) (a4 : Int32)  (M : Mm) : Option (Mm) :=
    (pF M 2 129 (some a0) a1).bind fun M1 =>
    (pF M1 2 130 (some a0) a2).bind fun M2 =>
    (pF M2 2 131 (some a0) a3).bind fun M3 =>
    (pF M3 2 132 (some a0) a4).bind fun M4 =>
    (pF M4 2 133 (some a0) (-1 : Int32)).bind fun M5 =>
    (pF M5 2 134 (some a0) (0 : Int32)).bind fun M6 =>
    (pF M6 2 135 (some a0) (0 : Int32)).bind fun M7 =>
    (gR M7 2 136 (some a0)).bind fun v8 =>
    (fJ7_fill_53178 fu  v8 (0 : Int32) M7).bind fun M9 =>
    some M9
theorem dX2_begin_0 : decode cX2_begin 0 = .ok (.aload_n 0, 1) := by decide +kernel
theorem dX2_begin_1 : decode cX2_begin 1 = .ok (.iload_n 1, 1) := by decide +kernel
theorem dX2_begin_2 : decode cX2_begin 2 = .ok (.putfield 17, 3) := by decide +kernel
theorem dX2_begin_5 : decode cX2_begin 5 = .ok (.aload_n 0, 1) := by decide +kernel
theorem dX2_begin_6 : decode cX2_begin 6 = .ok (.iload_n 2, 1) := by decide +kernel
theorem dX2_begin_7 : decode cX2_begin 7 = .ok (.putfield 21, 3) := by decide +kernel
theorem dX2_begin_10 : decode cX2_begin 10 = .ok (.aload_n 0, 1) := by decide +kernel
theorem dX2_begin_11 : decode cX2_begin 11 = .ok (.iload_n 3, 1) := by decide +kernel
theorem dX2_begin_12 : decode cX2_begin 12 = .ok (.putfield 24, 3) := by decide +kernel
theorem dX2_begin_15 : decode cX2_begin 15 = .ok (.aload_n 0, 1) := by decide +kernel
theorem dX2_begin_16 : decode cX2_begin 16 = .ok (.iload 4, 2) := by decide +kernel
theorem dX2_begin_18 : decode cX2_begin 18 = .ok (.putfield 27, 3) := by decide +kernel
theorem dX2_begin_21 : decode cX2_begin 21 = .ok (.aload_n 0, 1) := by decide +kernel
theorem dX2_begin_22 : decode cX2_begin 22 = .ok (.iconst (-1), 1) := by decide +kernel
theorem dX2_begin_23 : decode cX2_begin 23 = .ok (.putfield 30, 3) := by decide +kernel
theorem dX2_begin_26 : decode cX2_begin 26 = .ok (.aload_n 0, 1) := by decide +kernel
theorem dX2_begin_27 : decode cX2_begin 27 = .ok (.iconst 0, 1) := by decide +kernel
theorem dX2_begin_28 : decode cX2_begin 28 = .ok (.putfield 33, 3) := by decide +kernel
theorem dX2_begin_31 : decode cX2_begin 31 = .ok (.aload_n 0, 1) := by decide +kernel
theorem dX2_begin_32 : decode cX2_begin 32 = .ok (.iconst 0, 1) := by decide +kernel
theorem dX2_begin_33 : decode cX2_begin 33 = .ok (.putfield 36, 3) := by decide +kernel
theorem dX2_begin_36 : decode cX2_begin 36 = .ok (.aload_n 0, 1) := by decide +kernel
theorem dX2_begin_37 : decode cX2_begin 37 = .ok (.getfield 13, 3) := by decide +kernel
theorem dX2_begin_40 : decode cX2_begin 40 = .ok (.iconst 0, 1) := by decide +kernel
theorem dX2_begin_41 : decode cX2_begin 41 = .ok (.invokestatic 39, 3) := by decide +kernel
theorem dX2_begin_44 : decode cX2_begin 44 = .ok (.return_, 1) := by decide +kernel
theorem wX2_begin {x : GX} {n0 sl0 : Nat} (X : Cx x cX2_begin RX2 none n0 sl0 1 23) {out : Mm} (hE : Ends x n0 sl0 none out) (hn : xn x = 5) (fu : Nat)   (a0 : Nat) (a1 : Int32) (a2 : Int32) (a3 : Int32) (a4 : Int32)  (M : Mm) (h : fX2_begin fu  a0 a1 a2 a3 a4 M = some out) : Gw x M 0 [(0, pR (some a0)), (1, pI a1), (2, pI a2), (3, pI a3), (4, pI a4)] [] := by
  unfold fX2_begin at h
  refine g_aload_n X (pc := 0) 0 rfl rfl dX2_begin_0 ?_
  refine g_iload_n X (pc := 1) 1 rfl rfl dX2_begin_1 ?_
  obtain ⟨M1, eM1, h⟩ := bd h
  refine g_putI X (pc := 2) fk_2_1 rfl rfl rfl eM1 tb_745 (Or.inl rfl) dX2_begin_2 ?_
  refine g_aload_n X (pc := 5) 0 rfl rfl dX2_begin_5 ?_
  refine g_iload_n X (pc := 6) 2 rfl rfl dX2_begin_6 ?_
  obtain ⟨M2, eM2, h⟩ := bd h
  refine g_putI X (pc := 7) fk_2_2 rfl rfl rfl eM2 tb_746 (Or.inl rfl) dX2_begin_7 ?_
  refine g_aload_n X (pc := 10) 0 rfl rfl dX2_begin_10 ?_
  refine g_iload_n X (pc := 11) 3 rfl rfl dX2_begin_11 ?_
  obtain ⟨M3, eM3, h⟩ := bd h
  refine g_putI X (pc := 12) fk_2_3 rfl rfl rfl eM3 tb_747 (Or.inl rfl) dX2_begin_12 ?_
  refine g_aload_n X (pc := 15) 0 rfl rfl dX2_begin_15 ?_
  refine g_iload X (pc := 16) 4 rfl dX2_begin_16 ?_
  obtain ⟨M4, eM4, h⟩ := bd h
  refine g_putI X (pc := 18) fk_2_4 rfl rfl rfl eM4 tb_748 (Or.inl rfl) dX2_begin_18 ?_
  refine g_aload_n X (pc := 21) 0 rfl rfl dX2_begin_21 ?_
  refine g_iconst X (pc := 22) (v := (-1)) dX2_begin_22 (by decide) ?_
  obtain ⟨M5, eM5, h⟩ := bd h
  refine g_putI X (pc := 23) fk_2_5 rfl rfl rfl eM5 tb_750 (Or.inl rfl) dX2_begin_23 ?_
  refine g_aload_n X (pc := 26) 0 rfl rfl dX2_begin_26 ?_
  refine g_iconst X (pc := 27) (v := 0) dX2_begin_27 (by decide) ?_
  obtain ⟨M6, eM6, h⟩ := bd h
  refine g_putI X (pc := 28) fk_2_6 rfl rfl rfl eM6 tb_752 (Or.inl rfl) dX2_begin_28 ?_
  refine g_aload_n X (pc := 31) 0 rfl rfl dX2_begin_31 ?_
  refine g_iconst X (pc := 32) (v := 0) dX2_begin_32 (by decide) ?_
  obtain ⟨M7, eM7, h⟩ := bd h
  refine g_putI X (pc := 33) fk_2_7 rfl rfl rfl eM7 tb_753 (Or.inl rfl) dX2_begin_33 ?_
  refine g_aload_n X (pc := 36) 0 rfl rfl dX2_begin_36 ?_
  obtain ⟨v8, ev8, h⟩ := bd h
  refine g_getR X (pc := 37) fk_2_8 rfl rfl ev8 tb_754 dX2_begin_37 ?_
  refine g_iconst X (pc := 40) (v := 0) dX2_begin_40 (by decide) ?_
  obtain ⟨M9, eM9, h⟩ := bd h
  refine g_callS X (pc := 41) (M' := M9) (ro := none) (as := [pR v8, pI (0 : Int32)]) (as' := [pI (0 : Int32), pR v8]) (st := []) (ctJ7_fill_53178 _ _ _ _ _ _ fu  v8 (0 : Int32) M7 _ eM9) tb_436 tb_778 tb_435 tb_14 hyJ7_fill_53178 rfl rfl ⟨by decide, by decide⟩ (Nat.le_of_ble_eq_true rfl) dX2_begin_41 ?_
  obtain rfl := Option.some.inj h
  exact g_return X hE dX2_begin_44
theorem hyX2_begin : yX2_begin.cls ≠ "java/lang/invoke/MethodHandle" ∧ yX2_begin.cls ≠ "java/lang/invoke/VarHandle" ∧ (parseMethodDescriptor yX2_begin.desc).map (fun d => d.parameters.length) = some 4 := ⟨by decide +kernel, by decide +kernel, by decide +kernel⟩
theorem ctX2_begin (l : Launch) (E : Nat → Nat) (D : va_G) (dA : Nat → ClassId) (lo : Nat) (H0 : Heap) (fu : Nat) (a0 : Nat) (a1 : Int32) (a2 : Int32) (a3 : Int32) (a4 : Int32) (M : Mm) (out : Mm) (h : fX2_begin fu a0 a1 a2 a3 a4 M = some out) : Ct l E D dA lo H0 yX2_begin cX2_begin 5 none 1 23 [pR (some a0), pI a1, pI a2, pI a3, pI a4] M none out := by
  refine ct_of (by decide +kernel) (Nat.le_of_ble_eq_true rfl) ?_
  intro x hl he hd ha ho hh hn hin X hE
  exact wX2_begin X hE hn fu a0 a1 a2 a3 a4 M h
/-! WebHost$Datagram.isOf(III)Z -/
def fX2_isOf (fu : Nat)  (a0 : Nat) (a1 : Int32) (a2 : Int32) (a3 : Int32)  (M : Mm) : Option (Int32 × Mm) :=
    (gI M 2 129 (some a0)).bind fun v1 =>
    if v1 = a1 then (
    (gI M 2 130 (some a0)).bind fun v2 =>
    if v2 = a2 then (
    (gI M 2 131 (some a0)).bind fun v3 =>
    if v3 = a3 then (
    rN .boolean (1 : Int32) M)
    else (
    rN .boolean (0 : Int32) M))
    else (
    rN .boolean (0 : Int32) M))
    else (
    rN .boolean (0 : Int32) M)
theorem dX2_isOf_0 : decode cX2_isOf 0 = .ok (.aload_n 0, 1) := by decide +kernel
theorem dX2_isOf_1 : decode cX2_isOf 1 = .ok (.getfield 17, 3) := by decide +kernel
theorem dX2_isOf_4 : decode cX2_isOf 4 = .ok (.iload_n 1, 1) := by decide +kernel
theorem dX2_isOf_5 : decode cX2_isOf 5 = .ok (.if_icmp .ne 23, 3) := by decide +kernel
theorem dX2_isOf_8 : decode cX2_isOf 8 = .ok (.aload_n 0, 1) := by decide +kernel
theorem dX2_isOf_9 : decode cX2_isOf 9 = .ok (.getfield 21, 3) := by decide +kernel
theorem dX2_isOf_12 : decode cX2_isOf 12 = .ok (.iload_n 2, 1) := by decide +kernel
theorem dX2_isOf_13 : decode cX2_isOf 13 = .ok (.if_icmp .ne 15, 3) := by decide +kernel
theorem dX2_isOf_16 : decode cX2_isOf 16 = .ok (.aload_n 0, 1) := by decide +kernel
theorem dX2_isOf_17 : decode cX2_isOf 17 = .ok (.getfield 24, 3) := by decide +kernel
theorem dX2_isOf_20 : decode cX2_isOf 20 = .ok (.iload_n 3, 1) := by decide +kernel
theorem dX2_isOf_21 : decode cX2_isOf 21 = .ok (.if_icmp .ne 7, 3) := by decide +kernel
theorem dX2_isOf_24 : decode cX2_isOf 24 = .ok (.iconst 1, 1) := by decide +kernel
theorem dX2_isOf_25 : decode cX2_isOf 25 = .ok (.goto 4, 3) := by decide +kernel
theorem dX2_isOf_28 : decode cX2_isOf 28 = .ok (.iconst 0, 1) := by decide +kernel
theorem dX2_isOf_29 : decode cX2_isOf 29 = .ok (.ireturn, 1) := by decide +kernel
theorem wX2_isOf {x : GX} {n0 sl0 : Nat} (X : Cx x cX2_isOf RX2 (some .boolean) n0 sl0 0 0) {out : Int32 × Mm} (hE : Ends x n0 sl0 (some (pI out.1)) out.2) (hn : xn x = 4) (fu : Nat)   (a0 : Nat) (a1 : Int32) (a2 : Int32) (a3 : Int32)  (M : Mm) (h : fX2_isOf fu  a0 a1 a2 a3 M = some out) : Gw x M 0 [(0, pR (some a0)), (1, pI a1), (2, pI a2), (3, pI a3)] [] := by
  unfold fX2_isOf at h
  refine g_aload_n X (pc := 0) 0 rfl rfl dX2_isOf_0 ?_
  obtain ⟨v1, ev1, h⟩ := bd h
  refine g_getI X (pc := 1) fk_2_1 rfl rfl ev1 tb_745 dX2_isOf_1 ?_
  refine g_iload_n X (pc := 4) 1 rfl rfl dX2_isOf_4 ?_
  refine g_icmp_ne X (pc := 5) (tgt := 28) dX2_isOf_5 (by decide) (fun hc => ?_) (fun hc => ?_)
  · have h := (if_neg hc).symm.trans h
    refine g_iconst X (pc := 28) (v := 0) dX2_isOf_28 (by decide) ?_
    obtain ⟨hz, rfl⟩ := rN_some h
    exact g_nreturn X rfl hz hE dX2_isOf_29
  · have h := (if_pos hc).symm.trans h
    refine g_aload_n X (pc := 8) 0 rfl rfl dX2_isOf_8 ?_
    obtain ⟨v2, ev2, h⟩ := bd h
    refine g_getI X (pc := 9) fk_2_2 rfl rfl ev2 tb_746 dX2_isOf_9 ?_
    refine g_iload_n X (pc := 12) 2 rfl rfl dX2_isOf_12 ?_
    refine g_icmp_ne X (pc := 13) (tgt := 28) dX2_isOf_13 (by decide) (fun hc => ?_) (fun hc => ?_)
    · have h := (if_neg hc).symm.trans h
      refine g_iconst X (pc := 28) (v := 0) dX2_isOf_28 (by decide) ?_
      obtain ⟨hz, rfl⟩ := rN_some h
      exact g_nreturn X rfl hz hE dX2_isOf_29
    · have h := (if_pos hc).symm.trans h
      refine g_aload_n X (pc := 16) 0 rfl rfl dX2_isOf_16 ?_
      obtain ⟨v3, ev3, h⟩ := bd h
      refine g_getI X (pc := 17) fk_2_3 rfl rfl ev3 tb_747 dX2_isOf_17 ?_
      refine g_iload_n X (pc := 20) 3 rfl rfl dX2_isOf_20 ?_
      refine g_icmp_ne X (pc := 21) (tgt := 28) dX2_isOf_21 (by decide) (fun hc => ?_) (fun hc => ?_)
      · have h := (if_neg hc).symm.trans h
        refine g_iconst X (pc := 28) (v := 0) dX2_isOf_28 (by decide) ?_
        obtain ⟨hz, rfl⟩ := rN_some h
        exact g_nreturn X rfl hz hE dX2_isOf_29
      · have h := (if_pos hc).symm.trans h
        refine g_iconst X (pc := 24) (v := 1) dX2_isOf_24 (by decide) ?_
        refine g_goto X (pc := 25) (tgt := 29) dX2_isOf_25 (by decide) ?_
        obtain ⟨hz, rfl⟩ := rN_some h
        exact g_nreturn X rfl hz hE dX2_isOf_29
theorem hyX2_isOf : yX2_isOf.cls ≠ "java/lang/invoke/MethodHandle" ∧ yX2_isOf.cls ≠ "java/lang/invoke/VarHandle" ∧ (parseMethodDescriptor yX2_isOf.desc).map (fun d => d.parameters.length) = some 3 := ⟨by decide +kernel, by decide +kernel, by decide +kernel⟩
theorem ctX2_isOf (l : Launch) (E : Nat → Nat) (D : va_G) (dA : Nat → ClassId) (lo : Nat) (H0 : Heap) (fu : Nat) (a0 : Nat) (a1 : Int32) (a2 : Int32) (a3 : Int32) (M : Mm) (out : Int32 × Mm) (h : fX2_isOf fu a0 a1 a2 a3 M = some out) : Ct l E D dA lo H0 yX2_isOf cX2_isOf 4 (some .boolean) 0 0 [pR (some a0), pI a1, pI a2, pI a3] M (some (pI out.1)) out.2 := by
  refine ct_of (by decide +kernel) (Nat.le_of_ble_eq_true rfl) ?_
  intro x hl he hd ha ho hh hn hin X hE
  exact wX2_isOf X hE hn fu a0 a1 a2 a3 M h
/-! WebHost$Datagram.agrees(IZ)Z -/
def fX2_agrees (fu : Nat)  (a0 : Nat) (a1 : Int32) (a2 : Int32)  (M : Mm) : Option (Int32 × Mm) :=
    if a2 = 0 then (
    (gI M 2 133 (some a0)).bind fun v1 =>
    if 0 ≤ v1 then (
    (gI M 2 133 (some a0)).bind fun v2 =>
    if a1 = v2 then (
    rN .boolean (1 : Int32) M)
    else (
    rN .boolean (0 : Int32) M))
    else (
    (gI M 2 135 (some a0)).bind fun v3 =>
    if a1 < v3 then (
    rN .boolean (0 : Int32) M)
    else (
    rN .boolean (1 : Int32) M)))
    else (
    (gI M 2 133 (some a0)).bind fun v4 =>
    if v4 < 0 then (
    rN .boolean (1 : Int32) M)
    else (
    (gI M 2 133 (some a0)).bind fun v5 =>
    if v5 < a1 then (
    rN .boolean (0 : Int32) M)
    else (
    rN .boolean (1 : Int32) M)))
theorem dX2_agrees_0 : decode cX2_agrees 0 = .ok (.iload_n 2, 1) := by decide +kernel
theorem dX2_agrees_1 : decode cX2_agrees 1 = .ok (.ifCond .eq 24, 3) := by decide +kernel
theorem dX2_agrees_4 : decode cX2_agrees 4 = .ok (.aload_n 0, 1) := by decide +kernel
theorem dX2_agrees_5 : decode cX2_agrees 5 = .ok (.getfield 30, 3) := by decide +kernel
theorem dX2_agrees_8 : decode cX2_agrees 8 = .ok (.ifCond .lt 11, 3) := by decide +kernel
theorem dX2_agrees_11 : decode cX2_agrees 11 = .ok (.iload_n 1, 1) := by decide +kernel
theorem dX2_agrees_12 : decode cX2_agrees 12 = .ok (.aload_n 0, 1) := by decide +kernel
theorem dX2_agrees_13 : decode cX2_agrees 13 = .ok (.getfield 30, 3) := by decide +kernel
theorem dX2_agrees_16 : decode cX2_agrees 16 = .ok (.if_icmp .gt 7, 3) := by decide +kernel
theorem dX2_agrees_19 : decode cX2_agrees 19 = .ok (.iconst 1, 1) := by decide +kernel
theorem dX2_agrees_20 : decode cX2_agrees 20 = .ok (.goto 4, 3) := by decide +kernel
theorem dX2_agrees_23 : decode cX2_agrees 23 = .ok (.iconst 0, 1) := by decide +kernel
theorem dX2_agrees_24 : decode cX2_agrees 24 = .ok (.ireturn, 1) := by decide +kernel
theorem dX2_agrees_25 : decode cX2_agrees 25 = .ok (.aload_n 0, 1) := by decide +kernel
theorem dX2_agrees_26 : decode cX2_agrees 26 = .ok (.getfield 30, 3) := by decide +kernel
theorem dX2_agrees_29 : decode cX2_agrees 29 = .ok (.ifCond .ge 19, 3) := by decide +kernel
theorem dX2_agrees_32 : decode cX2_agrees 32 = .ok (.iload_n 1, 1) := by decide +kernel
theorem dX2_agrees_33 : decode cX2_agrees 33 = .ok (.aload_n 0, 1) := by decide +kernel
theorem dX2_agrees_34 : decode cX2_agrees 34 = .ok (.getfield 36, 3) := by decide +kernel
theorem dX2_agrees_37 : decode cX2_agrees 37 = .ok (.if_icmp .lt 7, 3) := by decide +kernel
theorem dX2_agrees_40 : decode cX2_agrees 40 = .ok (.iconst 1, 1) := by decide +kernel
theorem dX2_agrees_41 : decode cX2_agrees 41 = .ok (.goto 20, 3) := by decide +kernel
theorem dX2_agrees_44 : decode cX2_agrees 44 = .ok (.iconst 0, 1) := by decide +kernel
theorem dX2_agrees_45 : decode cX2_agrees 45 = .ok (.goto 16, 3) := by decide +kernel
theorem dX2_agrees_48 : decode cX2_agrees 48 = .ok (.iload_n 1, 1) := by decide +kernel
theorem dX2_agrees_49 : decode cX2_agrees 49 = .ok (.aload_n 0, 1) := by decide +kernel
theorem dX2_agrees_50 : decode cX2_agrees 50 = .ok (.getfield 30, 3) := by decide +kernel
theorem dX2_agrees_53 : decode cX2_agrees 53 = .ok (.if_icmp .ne 7, 3) := by decide +kernel
theorem dX2_agrees_56 : decode cX2_agrees 56 = .ok (.iconst 1, 1) := by decide +kernel
theorem dX2_agrees_57 : decode cX2_agrees 57 = .ok (.goto 4, 3) := by decide +kernel
theorem dX2_agrees_60 : decode cX2_agrees 60 = .ok (.iconst 0, 1) := by decide +kernel
theorem dX2_agrees_61 : decode cX2_agrees 61 = .ok (.ireturn, 1) := by decide +kernel
theorem wX2_agrees {x : GX} {n0 sl0 : Nat} (X : Cx x cX2_agrees RX2 (some .boolean) n0 sl0 0 0) {out : Int32 × Mm} (hE : Ends x n0 sl0 (some (pI out.1)) out.2) (hn : xn x = 3) (fu : Nat)   (a0 : Nat) (a1 : Int32) (a2 : Int32)  (M : Mm) (h : fX2_agrees fu  a0 a1 a2 M = some out) : Gw x M 0 [(0, pR (some a0)), (1, pI a1), (2, pI a2)] [] := by
  unfold fX2_agrees at h
  refine g_iload_n X (pc := 0) 2 rfl rfl dX2_agrees_0 ?_
  refine g_if_eq X (pc := 1) (tgt := 25) dX2_agrees_1 (by decide) (fun hc => ?_) (fun hc => ?_)
  · have h := (if_pos hc).symm.trans h
    refine g_aload_n X (pc := 25) 0 rfl rfl dX2_agrees_25 ?_
    obtain ⟨v1, ev1, h⟩ := bd h
    refine g_getI X (pc := 26) fk_2_5 rfl rfl ev1 tb_750 dX2_agrees_26 ?_
    refine g_if_ge X (pc := 29) (tgt := 48) dX2_agrees_29 (by decide) (fun hc => ?_) (fun hc => ?_)
    · have h := (if_pos hc).symm.trans h
      refine g_iload_n X (pc := 48) 1 rfl rfl dX2_agrees_48 ?_
      refine g_aload_n X (pc := 49) 0 rfl rfl dX2_agrees_49 ?_
      obtain ⟨v2, ev2, h⟩ := bd h
      refine g_getI X (pc := 50) fk_2_5 rfl rfl ev2 tb_750 dX2_agrees_50 ?_
      refine g_icmp_ne X (pc := 53) (tgt := 60) dX2_agrees_53 (by decide) (fun hc => ?_) (fun hc => ?_)
      · have h := (if_neg hc).symm.trans h
        refine g_iconst X (pc := 60) (v := 0) dX2_agrees_60 (by decide) ?_
        obtain ⟨hz, rfl⟩ := rN_some h
        exact g_nreturn X rfl hz hE dX2_agrees_61
      · have h := (if_pos hc).symm.trans h
        refine g_iconst X (pc := 56) (v := 1) dX2_agrees_56 (by decide) ?_
        refine g_goto X (pc := 57) (tgt := 61) dX2_agrees_57 (by decide) ?_
        obtain ⟨hz, rfl⟩ := rN_some h
        exact g_nreturn X rfl hz hE dX2_agrees_61
    · have h := (if_neg hc).symm.trans h
      refine g_iload_n X (pc := 32) 1 rfl rfl dX2_agrees_32 ?_
      refine g_aload_n X (pc := 33) 0 rfl rfl dX2_agrees_33 ?_
      obtain ⟨v3, ev3, h⟩ := bd h
      refine g_getI X (pc := 34) fk_2_7 rfl rfl ev3 tb_753 dX2_agrees_34 ?_
      refine g_icmp_lt X (pc := 37) (tgt := 44) dX2_agrees_37 (by decide) (fun hc => ?_) (fun hc => ?_)
      · have h := (if_pos hc).symm.trans h
        refine g_iconst X (pc := 44) (v := 0) dX2_agrees_44 (by decide) ?_
        refine g_goto X (pc := 45) (tgt := 61) dX2_agrees_45 (by decide) ?_
        obtain ⟨hz, rfl⟩ := rN_some h
        exact g_nreturn X rfl hz hE dX2_agrees_61
      · have h := (if_neg hc).symm.trans h
        refine g_iconst X (pc := 40) (v := 1) dX2_agrees_40 (by decide) ?_
        refine g_goto X (pc := 41) (tgt := 61) dX2_agrees_41 (by decide) ?_
        obtain ⟨hz, rfl⟩ := rN_some h
        exact g_nreturn X rfl hz hE dX2_agrees_61
  · have h := (if_neg hc).symm.trans h
    refine g_aload_n X (pc := 4) 0 rfl rfl dX2_agrees_4 ?_
    obtain ⟨v4, ev4, h⟩ := bd h
    refine g_getI X (pc := 5) fk_2_5 rfl rfl ev4 tb_750 dX2_agrees_5 ?_
    refine g_if_lt X (pc := 8) (tgt := 19) dX2_agrees_8 (by decide) (fun hc => ?_) (fun hc => ?_)
    · have h := (if_pos hc).symm.trans h
      refine g_iconst X (pc := 19) (v := 1) dX2_agrees_19 (by decide) ?_
      refine g_goto X (pc := 20) (tgt := 24) dX2_agrees_20 (by decide) ?_
      obtain ⟨hz, rfl⟩ := rN_some h
      exact g_nreturn X rfl hz hE dX2_agrees_24
    · have h := (if_neg hc).symm.trans h
      refine g_iload_n X (pc := 11) 1 rfl rfl dX2_agrees_11 ?_
      refine g_aload_n X (pc := 12) 0 rfl rfl dX2_agrees_12 ?_
      obtain ⟨v5, ev5, h⟩ := bd h
      refine g_getI X (pc := 13) fk_2_5 rfl rfl ev5 tb_750 dX2_agrees_13 ?_
      refine g_icmp_gt X (pc := 16) (tgt := 23) dX2_agrees_16 (by decide) (fun hc => ?_) (fun hc => ?_)
      · have h := (if_pos hc).symm.trans h
        refine g_iconst X (pc := 23) (v := 0) dX2_agrees_23 (by decide) ?_
        obtain ⟨hz, rfl⟩ := rN_some h
        exact g_nreturn X rfl hz hE dX2_agrees_24
      · have h := (if_neg hc).symm.trans h
        refine g_iconst X (pc := 19) (v := 1) dX2_agrees_19 (by decide) ?_
        refine g_goto X (pc := 20) (tgt := 24) dX2_agrees_20 (by decide) ?_
        obtain ⟨hz, rfl⟩ := rN_some h
        exact g_nreturn X rfl hz hE dX2_agrees_24
theorem hyX2_agrees : yX2_agrees.cls ≠ "java/lang/invoke/MethodHandle" ∧ yX2_agrees.cls ≠ "java/lang/invoke/VarHandle" ∧ (parseMethodDescriptor yX2_agrees.desc).map (fun d => d.parameters.length) = some 2 := ⟨by decide +kernel, by decide +kernel, by decide +kernel⟩
theorem ctX2_agrees (l : Launch) (E : Nat → Nat) (D : va_G) (dA : Nat → ClassId) (lo : Nat) (H0 : Heap) (fu : Nat) (a0 : Nat) (a1 : Int32) (a2 : Int32) (M : Mm) (out : Int32 × Mm) (h : fX2_agrees fu a0 a1 a2 M = some out) : Ct l E D dA lo H0 yX2_agrees cX2_agrees 3 (some .boolean) 0 0 [pR (some a0), pI a1, pI a2] M (some (pI out.1)) out.2 := by
  refine ct_of (by decide +kernel) (Nat.le_of_ble_eq_true rfl) ?_
  intro x hl he hd ha ho hh hn hin X hE
  exact wX2_agrees X hE hn fu a0 a1 a2 M h
/-! WebHost$Datagram.put([BIII)V -/
def fX2_put_L101 (fu : Nat)  (a0 : Nat) (a3 : Int32) (a4 : Int32)  (M : Mm) : Option (Mm) :=
    (gI M 2 135 (some a0)).bind fun v1 =>
    (pF M 2 135 (some a0) (jmax v1 (a3 + a4))).bind fun M2 =>
    some M2
def fX2_put_L95 (fu : Nat) (k3 : Nat → Option Nat → Int32 → Int32 → Int32 → Int32 → Mm → Option (Mm)) (a0 : Nat) (a1 : Option Nat) (a2 : Int32) (a3 : Int32) (a4 : Int32) (a5 : Int32)  (M : Mm) : Option (Mm) :=
    k3 a0 a1 a2 a3 a4 (a5 + (1 : Int32)) M
def fX2_put_L3 (fu : Nat)  : Nat → Nat → Option Nat → Int32 → Int32 → Int32 → Int32 → Mm → Option (Mm)
  | 0, _, _, _, _, _, _, _ => none
  | n + 1, a0, a1, a2, a3, a4, a5, M =>
    if a4 ≤ a5 then (
    fX2_put_L101 fu  a0 a3 a4 M)
    else (
    if (4096 : Int32) ≤ (a3 + a5) then (
    fX2_put_L101 fu  a0 a3 a4 M)
    else (
    (some ((1 : Int32) <<< (((a3 + a5) &&& (31 : Int32)) &&& 31))).bind fun v1 =>
    if (a3 + a5) < 0 then (
    fX2_put_L95 fu (fun b0 b1 b2 b3 b4 b5 M => fX2_put_L3 fu  n b0 b1 b2 b3 b4 b5 M) a0 a1 a2 a3 a4 a5 M)
    else (
    (gR M 2 136 (some a0)).bind fun v2 =>
    (gA M 101 v2 ((a3 + a5) >>> ((5 : Int32) &&& 31))).bind fun v3 =>
    if (v3 &&& v1) = 0 then (
    (gR M 2 136 (some a0)).bind fun v4 =>
    (gA M 101 v4 ((a3 + a5) >>> ((5 : Int32) &&& 31))).bind fun v5 =>
    (pA M 101 v4 ((a3 + a5) >>> ((5 : Int32) &&& 31)) (v5 ||| v1)).bind fun M6 =>
    (gR M6 2 128 (some a0)).bind fun v7 =>
    b2 (fX11_one fu  a1 (a2 + a5) M6) fun v9 M8 =>
    (pA M8 100 v7 (a3 + a5) (Int8.toInt32 (Int32.toInt8 (Int8.toInt32 (Int32.toInt8 v9))))).bind fun M10 =>
    (gI M10 2 134 (some a0)).bind fun v11 =>
    (pF M10 2 134 (some a0) (v11 + (1 : Int32))).bind fun M12 =>
    fX2_put_L95 fu (fun b0 b1 b2 b3 b4 b5 M => fX2_put_L3 fu  n b0 b1 b2 b3 b4 b5 M) a0 a1 a2 a3 a4 a5 M12)
    else (
    fX2_put_L95 fu (fun b0 b1 b2 b3 b4 b5 M => fX2_put_L3 fu  n b0 b1 b2 b3 b4 b5 M) a0 a1 a2 a3 a4 a5 M))))
def fX2_put (fu : Nat)  (a0 : Nat) (a1 : Option Nat) (a2 : Int32) (a3 : Int32) (a4 : Int32)  (M : Mm) : Option (Mm) :=
    fX2_put_L3 fu  fu a0 a1 a2 a3 a4 (0 : Int32) M
theorem dX2_put_0 : decode cX2_put 0 = .ok (.iconst 0, 1) := by decide +kernel
theorem dX2_put_1 : decode cX2_put 1 = .ok (.istore 5, 2) := by decide +kernel
theorem dX2_put_3 : decode cX2_put 3 = .ok (.iload 5, 2) := by decide +kernel
theorem dX2_put_5 : decode cX2_put 5 = .ok (.iload 4, 2) := by decide +kernel
theorem dX2_put_7 : decode cX2_put 7 = .ok (.if_icmp .ge 94, 3) := by decide +kernel
theorem dX2_put_10 : decode cX2_put 10 = .ok (.iload_n 3, 1) := by decide +kernel
theorem dX2_put_11 : decode cX2_put 11 = .ok (.iload 5, 2) := by decide +kernel
theorem dX2_put_13 : decode cX2_put 13 = .ok (.iadd, 1) := by decide +kernel
theorem dX2_put_14 : decode cX2_put 14 = .ok (.sipush 4096, 3) := by decide +kernel
theorem dX2_put_17 : decode cX2_put 17 = .ok (.if_icmp .ge 84, 3) := by decide +kernel
theorem dX2_put_20 : decode cX2_put 20 = .ok (.iload_n 3, 1) := by decide +kernel
theorem dX2_put_21 : decode cX2_put 21 = .ok (.iload 5, 2) := by decide +kernel
theorem dX2_put_23 : decode cX2_put 23 = .ok (.iadd, 1) := by decide +kernel
theorem dX2_put_24 : decode cX2_put 24 = .ok (.istore 6, 2) := by decide +kernel
theorem dX2_put_26 : decode cX2_put 26 = .ok (.iconst 1, 1) := by decide +kernel
theorem dX2_put_27 : decode cX2_put 27 = .ok (.iload 6, 2) := by decide +kernel
theorem dX2_put_29 : decode cX2_put 29 = .ok (.bipush 31, 2) := by decide +kernel
theorem dX2_put_31 : decode cX2_put 31 = .ok (.iand, 1) := by decide +kernel
theorem dX2_put_32 : decode cX2_put 32 = .ok (.ishl, 1) := by decide +kernel
theorem dX2_put_33 : decode cX2_put 33 = .ok (.istore 7, 2) := by decide +kernel
theorem dX2_put_35 : decode cX2_put 35 = .ok (.iload 6, 2) := by decide +kernel
theorem dX2_put_37 : decode cX2_put 37 = .ok (.ifCond .lt 58, 3) := by decide +kernel
theorem dX2_put_40 : decode cX2_put 40 = .ok (.aload_n 0, 1) := by decide +kernel
theorem dX2_put_41 : decode cX2_put 41 = .ok (.getfield 13, 3) := by decide +kernel
theorem dX2_put_44 : decode cX2_put 44 = .ok (.iload 6, 2) := by decide +kernel
theorem dX2_put_46 : decode cX2_put 46 = .ok (.iconst 5, 1) := by decide +kernel
theorem dX2_put_47 : decode cX2_put 47 = .ok (.ishr, 1) := by decide +kernel
theorem dX2_put_48 : decode cX2_put 48 = .ok (.iaload, 1) := by decide +kernel
theorem dX2_put_49 : decode cX2_put 49 = .ok (.iload 7, 2) := by decide +kernel
theorem dX2_put_51 : decode cX2_put 51 = .ok (.iand, 1) := by decide +kernel
theorem dX2_put_52 : decode cX2_put 52 = .ok (.ifCond .ne 43, 3) := by decide +kernel
theorem dX2_put_55 : decode cX2_put 55 = .ok (.aload_n 0, 1) := by decide +kernel
theorem dX2_put_56 : decode cX2_put 56 = .ok (.getfield 13, 3) := by decide +kernel
theorem dX2_put_59 : decode cX2_put 59 = .ok (.iload 6, 2) := by decide +kernel
theorem dX2_put_61 : decode cX2_put 61 = .ok (.iconst 5, 1) := by decide +kernel
theorem dX2_put_62 : decode cX2_put 62 = .ok (.ishr, 1) := by decide +kernel
theorem dX2_put_63 : decode cX2_put 63 = .ok (.dup2, 1) := by decide +kernel
theorem dX2_put_64 : decode cX2_put 64 = .ok (.iaload, 1) := by decide +kernel
theorem dX2_put_65 : decode cX2_put 65 = .ok (.iload 7, 2) := by decide +kernel
theorem dX2_put_67 : decode cX2_put 67 = .ok (.ior, 1) := by decide +kernel
theorem dX2_put_68 : decode cX2_put 68 = .ok (.iastore, 1) := by decide +kernel
theorem dX2_put_69 : decode cX2_put 69 = .ok (.aload_n 0, 1) := by decide +kernel
theorem dX2_put_70 : decode cX2_put 70 = .ok (.getfield 9, 3) := by decide +kernel
theorem dX2_put_73 : decode cX2_put 73 = .ok (.iload 6, 2) := by decide +kernel
theorem dX2_put_75 : decode cX2_put 75 = .ok (.aload_n 1, 1) := by decide +kernel
theorem dX2_put_76 : decode cX2_put 76 = .ok (.iload_n 2, 1) := by decide +kernel
theorem dX2_put_77 : decode cX2_put 77 = .ok (.iload 5, 2) := by decide +kernel
theorem dX2_put_79 : decode cX2_put 79 = .ok (.iadd, 1) := by decide +kernel
theorem dX2_put_80 : decode cX2_put 80 = .ok (.invokestatic 45, 3) := by decide +kernel
theorem dX2_put_83 : decode cX2_put 83 = .ok (.i2b, 1) := by decide +kernel
theorem dX2_put_84 : decode cX2_put 84 = .ok (.bastore, 1) := by decide +kernel
theorem dX2_put_85 : decode cX2_put 85 = .ok (.aload_n 0, 1) := by decide +kernel
theorem dX2_put_86 : decode cX2_put 86 = .ok (.dup, 1) := by decide +kernel
theorem dX2_put_87 : decode cX2_put 87 = .ok (.getfield 33, 3) := by decide +kernel
theorem dX2_put_90 : decode cX2_put 90 = .ok (.iconst 1, 1) := by decide +kernel
theorem dX2_put_91 : decode cX2_put 91 = .ok (.iadd, 1) := by decide +kernel
theorem dX2_put_92 : decode cX2_put 92 = .ok (.putfield 33, 3) := by decide +kernel
theorem dX2_put_95 : decode cX2_put 95 = .ok (.iinc 5 1, 3) := by decide +kernel
theorem dX2_put_98 : decode cX2_put 98 = .ok (.goto (-95), 3) := by decide +kernel
theorem dX2_put_101 : decode cX2_put 101 = .ok (.aload_n 0, 1) := by decide +kernel
theorem dX2_put_102 : decode cX2_put 102 = .ok (.aload_n 0, 1) := by decide +kernel
theorem dX2_put_103 : decode cX2_put 103 = .ok (.getfield 36, 3) := by decide +kernel
theorem dX2_put_106 : decode cX2_put 106 = .ok (.iload_n 3, 1) := by decide +kernel
theorem dX2_put_107 : decode cX2_put 107 = .ok (.iload 4, 2) := by decide +kernel
theorem dX2_put_109 : decode cX2_put 109 = .ok (.iadd, 1) := by decide +kernel
theorem dX2_put_110 : decode cX2_put 110 = .ok (.invokestatic 51, 3) := by decide +kernel
theorem dX2_put_113 : decode cX2_put 113 = .ok (.putfield 36, 3) := by decide +kernel
theorem dX2_put_116 : decode cX2_put 116 = .ok (.return_, 1) := by decide +kernel
theorem wX2_put_L101 {x : GX} {n0 sl0 : Nat} (X : Cx x cX2_put RX2 none n0 sl0 1 21) {out : Mm} (hE : Ends x n0 sl0 none out) (hn : xn x = 8) (fu : Nat)   (a0 : Nat) (a3 : Int32) (a4 : Int32)  (M : Mm) (h : fX2_put_L101 fu  a0 a3 a4 M = some out) : Gw x M 101 [(0, pR (some a0)), (3, pI a3), (4, pI a4)] [] := by
  unfold fX2_put_L101 at h
  refine g_aload_n X (pc := 101) 0 rfl rfl dX2_put_101 ?_
  refine g_aload_n X (pc := 102) 0 rfl rfl dX2_put_102 ?_
  obtain ⟨v1, ev1, h⟩ := bd h
  refine g_getI X (pc := 103) fk_2_7 rfl rfl ev1 tb_753 dX2_put_103 ?_
  refine g_iload_n X (pc := 106) 1 rfl rfl dX2_put_106 ?_
  refine g_iload X (pc := 107) 2 rfl dX2_put_107 ?_
  refine g_iadd X (pc := 109) dX2_put_109 ?_
  refine g_mmax X (pc := 110) tb_788 tb_405 tb_13 tb_406 ⟨by decide, Nat.le_of_ble_eq_true rfl⟩ dX2_put_110 ?_
  obtain ⟨M2, eM2, h⟩ := bd h
  refine g_putI X (pc := 113) fk_2_7 rfl rfl rfl eM2 tb_753 (Or.inl rfl) dX2_put_113 ?_
  obtain rfl := Option.some.inj h
  exact g_return X hE dX2_put_116
theorem wX2_put_L95 {x : GX} {n0 sl0 : Nat} (X : Cx x cX2_put RX2 none n0 sl0 1 21) {out : Mm} (hE : Ends x n0 sl0 none out) (hn : xn x = 8) (fu : Nat) (k3 : Nat → Option Nat → Int32 → Int32 → Int32 → Int32 → Mm → Option (Mm)) (hk3 : ∀ (b0 : Nat) (b1 : Option Nat) (b2 : Int32) (b3 : Int32) (b4 : Int32) (b5 : Int32)  (M : Mm), k3 b0 b1 b2 b3 b4 b5 M = some out → Gw x M 3 [(0, pR (some b0)), (1, pR b1), (2, pI b2), (3, pI b3), (4, pI b4), (5, pI b5)] []) (a0 : Nat) (a1 : Option Nat) (a2 : Int32) (a3 : Int32) (a4 : Int32) (a5 : Int32)  (M : Mm) (h : fX2_put_L95 fu k3 a0 a1 a2 a3 a4 a5 M = some out) : Gw x M 95 [(0, pR (some a0)), (1, pR a1), (2, pI a2), (3, pI a3), (4, pI a4), (5, pI a5)] [] := by
  unfold fX2_put_L95 at h
  refine g_iinc X (pc := 95) 5 [(5, pI (a5 + (1 : Int32))), (0, pR (some a0)), (1, pR a1), (2, pI a2), (3, pI a3), (4, pI a4)] rfl (iinc_e (by decide)) (lt_n hn (by decide)) rfl dX2_put_95 ?_
  refine g_goto X (pc := 98) (tgt := 3) dX2_put_98 (by decide) ?_
  refine g_sub [1, 2, 3, 4, 5, 0] [(0, pR (some a0)), (1, pR a1), (2, pI a2), (3, pI a3), (4, pI a4), (5, pI (a5 + (1 : Int32)))] rfl ?_
  exact hk3 a0 a1 a2 a3 a4 (a5 + (1 : Int32)) M h
theorem wX2_put_L3 {x : GX} {n0 sl0 : Nat} (X : Cx x cX2_put RX2 none n0 sl0 1 21) {out : Mm} (hE : Ends x n0 sl0 none out) (hn : xn x = 8) (fu : Nat)   : ∀ (n : Nat) (a0 : Nat) (a1 : Option Nat) (a2 : Int32) (a3 : Int32) (a4 : Int32) (a5 : Int32)  (M : Mm), fX2_put_L3 fu  n a0 a1 a2 a3 a4 a5 M = some out → Gw x M 3 [(0, pR (some a0)), (1, pR a1), (2, pI a2), (3, pI a3), (4, pI a4), (5, pI a5)] [] := by
  intro n
  induction n with
  | zero =>
    intro a0 a1 a2 a3 a4 a5 M h
    have h : (none : Option (Mm)) = some out := h
    cases h
  | succ n ih =>
    intro a0 a1 a2 a3 a4 a5 M h
    rw [fX2_put_L3] at h
    refine g_iload X (pc := 3) 5 rfl dX2_put_3 ?_
    refine g_iload X (pc := 5) 4 rfl dX2_put_5 ?_
    refine g_icmp_ge X (pc := 7) (tgt := 101) dX2_put_7 (by decide) (fun hc => ?_) (fun hc => ?_)
    · have h := (if_pos hc).symm.trans h
      refine g_sub [0, 3, 4] [(0, pR (some a0)), (3, pI a3), (4, pI a4)] rfl ?_
      exact wX2_put_L101 X hE hn fu   a0 a3 a4 M h
    · have h := (if_neg hc).symm.trans h
      refine g_iload_n X (pc := 10) 3 rfl rfl dX2_put_10 ?_
      refine g_iload X (pc := 11) 5 rfl dX2_put_11 ?_
      refine g_iadd X (pc := 13) dX2_put_13 ?_
      refine g_sipush X (pc := 14) (v := 4096) dX2_put_14 (by decide) ?_
      refine g_icmp_ge X (pc := 17) (tgt := 101) dX2_put_17 (by decide) (fun hc => ?_) (fun hc => ?_)
      · have h := (if_pos hc).symm.trans h
        refine g_sub [0, 3, 4] [(0, pR (some a0)), (3, pI a3), (4, pI a4)] rfl ?_
        exact wX2_put_L101 X hE hn fu   a0 a3 a4 M h
      · have h := (if_neg hc).symm.trans h
        refine g_iload_n X (pc := 20) 3 rfl rfl dX2_put_20 ?_
        refine g_iload X (pc := 21) 5 rfl dX2_put_21 ?_
        refine g_iadd X (pc := 23) dX2_put_23 ?_
        refine g_istore X (pc := 24) [(6, pI (a3 + a5)), (0, pR (some a0)), (1, pR a1), (2, pI a2), (3, pI a3), (4, pI a4), (5, pI a5)] (lt_n hn (by decide)) rfl dX2_put_24 ?_
        refine g_iconst X (pc := 26) (v := 1) dX2_put_26 (by decide) ?_
        refine g_iload X (pc := 27) 0 rfl dX2_put_27 ?_
        refine g_bipush X (pc := 29) (v := 31) dX2_put_29 (by decide) ?_
        refine g_iand X (pc := 31) dX2_put_31 ?_
        refine g_ishl X (pc := 32) dX2_put_32 ?_
        obtain ⟨v1, ev1, h⟩ := bd h
        refine g_nmI ev1 ?_
        refine g_istore X (pc := 33) [(7, pI v1), (6, pI (a3 + a5)), (0, pR (some a0)), (1, pR a1), (2, pI a2), (3, pI a3), (4, pI a4), (5, pI a5)] (lt_n hn (by decide)) rfl dX2_put_33 ?_
        refine g_iload X (pc := 35) 1 rfl dX2_put_35 ?_
        refine g_if_lt X (pc := 37) (tgt := 95) dX2_put_37 (by decide) (fun hc => ?_) (fun hc => ?_)
        · have h := (if_pos hc).symm.trans h
          refine g_sub [2, 3, 4, 5, 6, 7] [(0, pR (some a0)), (1, pR a1), (2, pI a2), (3, pI a3), (4, pI a4), (5, pI a5)] rfl ?_
          exact wX2_put_L95 X hE hn fu (fun b0 b1 b2 b3 b4 b5 M => fX2_put_L3 fu  n b0 b1 b2 b3 b4 b5 M) ih a0 a1 a2 a3 a4 a5 M h
        · have h := (if_neg hc).symm.trans h
          refine g_aload_n X (pc := 40) 2 rfl rfl dX2_put_40 ?_
          obtain ⟨v2, ev2, h⟩ := bd h
          refine g_getR X (pc := 41) fk_2_8 rfl rfl ev2 tb_754 dX2_put_41 ?_
          refine g_iload X (pc := 44) 1 rfl dX2_put_44 ?_
          refine g_iconst X (pc := 46) (v := 5) dX2_put_46 (by decide) ?_
          refine g_ishr X (pc := 47) dX2_put_47 ?_
          obtain ⟨v3, ev3, h⟩ := bd h
          refine g_iaload X (pc := 48) ev3 dX2_put_48 ?_
          refine g_iload X (pc := 49) 0 rfl dX2_put_49 ?_
          refine g_iand X (pc := 51) dX2_put_51 ?_
          refine g_if_ne X (pc := 52) (tgt := 95) dX2_put_52 (by decide) (fun hc => ?_) (fun hc => ?_)
          · have h := (if_neg hc).symm.trans h
            refine g_sub [2, 3, 4, 5, 6, 7] [(0, pR (some a0)), (1, pR a1), (2, pI a2), (3, pI a3), (4, pI a4), (5, pI a5)] rfl ?_
            exact wX2_put_L95 X hE hn fu (fun b0 b1 b2 b3 b4 b5 M => fX2_put_L3 fu  n b0 b1 b2 b3 b4 b5 M) ih a0 a1 a2 a3 a4 a5 M h
          · have h := (if_pos hc).symm.trans h
            refine g_aload_n X (pc := 55) 2 rfl rfl dX2_put_55 ?_
            obtain ⟨v4, ev4, h⟩ := bd h
            refine g_getR X (pc := 56) fk_2_8 rfl rfl ev4 tb_754 dX2_put_56 ?_
            refine g_iload X (pc := 59) 1 rfl dX2_put_59 ?_
            refine g_iconst X (pc := 61) (v := 5) dX2_put_61 (by decide) ?_
            refine g_ishr X (pc := 62) dX2_put_62 ?_
            refine g_dup2 X (pc := 63) rfl rfl dX2_put_63 ?_
            obtain ⟨v5, ev5, h⟩ := bd h
            refine g_iaload X (pc := 64) ev5 dX2_put_64 ?_
            refine g_iload X (pc := 65) 0 rfl dX2_put_65 ?_
            refine g_ior X (pc := 67) dX2_put_67 ?_
            obtain ⟨M6, eM6, h⟩ := bd h
            refine g_iastore X (pc := 68) eM6 dX2_put_68 ?_
            refine g_aload_n X (pc := 69) 2 rfl rfl dX2_put_69 ?_
            obtain ⟨v7, ev7, h⟩ := bd h
            refine g_getR X (pc := 70) fk_2_0 rfl rfl ev7 tb_743 dX2_put_70 ?_
            refine g_iload X (pc := 73) 1 rfl dX2_put_73 ?_
            refine g_aload_n X (pc := 75) 3 rfl rfl dX2_put_75 ?_
            refine g_iload_n X (pc := 76) 4 rfl rfl dX2_put_76 ?_
            refine g_iload X (pc := 77) 7 rfl dX2_put_77 ?_
            refine g_iadd X (pc := 79) dX2_put_79 ?_
            obtain ⟨v9, M8, eM8, h⟩ := b2d h
            refine g_callSN X (pc := 80) (M' := M8) (ro := some (pI v9)) (as := [pR a1, pI (a2 + a5)]) (as' := [pI (a2 + a5), pR a1]) (st := [pI (a3 + a5), pR v7]) (ctX11_one _ _ _ _ _ _ fu  a1 (a2 + a5) M6 _ eM8) tb_415 (List.mem_of_getElem? (i := 16) rfl) tb_414 tb_1 hyX11_one rfl rfl ⟨by decide, by decide⟩ (Nat.le_of_ble_eq_true rfl) dX2_put_80 ?_
            refine g_i2b X (pc := 83) dX2_put_83 ?_
            obtain ⟨M10, eM10, h⟩ := bd h
            refine g_bastore X (pc := 84) eM10 dX2_put_84 ?_
            refine g_aload_n X (pc := 85) 2 rfl rfl dX2_put_85 ?_
            refine g_dup X (pc := 86) rfl dX2_put_86 ?_
            obtain ⟨v11, ev11, h⟩ := bd h
            refine g_getI X (pc := 87) fk_2_6 rfl rfl ev11 tb_752 dX2_put_87 ?_
            refine g_iconst X (pc := 90) (v := 1) dX2_put_90 (by decide) ?_
            refine g_iadd X (pc := 91) dX2_put_91 ?_
            obtain ⟨M12, eM12, h⟩ := bd h
            refine g_putI X (pc := 92) fk_2_6 rfl rfl rfl eM12 tb_752 (Or.inl rfl) dX2_put_92 ?_
            refine g_sub [2, 3, 4, 5, 6, 7] [(0, pR (some a0)), (1, pR a1), (2, pI a2), (3, pI a3), (4, pI a4), (5, pI a5)] rfl ?_
            exact wX2_put_L95 X hE hn fu (fun b0 b1 b2 b3 b4 b5 M => fX2_put_L3 fu  n b0 b1 b2 b3 b4 b5 M) ih a0 a1 a2 a3 a4 a5 M12 h
theorem wX2_put {x : GX} {n0 sl0 : Nat} (X : Cx x cX2_put RX2 none n0 sl0 1 21) {out : Mm} (hE : Ends x n0 sl0 none out) (hn : xn x = 8) (fu : Nat)   (a0 : Nat) (a1 : Option Nat) (a2 : Int32) (a3 : Int32) (a4 : Int32)  (M : Mm) (h : fX2_put fu  a0 a1 a2 a3 a4 M = some out) : Gw x M 0 [(0, pR (some a0)), (1, pR a1), (2, pI a2), (3, pI a3), (4, pI a4)] [] := by
  unfold fX2_put at h
  refine g_iconst X (pc := 0) (v := 0) dX2_put_0 (by decide) ?_
  refine g_istore X (pc := 1) [(5, pI (0 : Int32)), (0, pR (some a0)), (1, pR a1), (2, pI a2), (3, pI a3), (4, pI a4)] (lt_n hn (by decide)) rfl dX2_put_1 ?_
  refine g_sub [1, 2, 3, 4, 5, 0] [(0, pR (some a0)), (1, pR a1), (2, pI a2), (3, pI a3), (4, pI a4), (5, pI (0 : Int32))] rfl ?_
  exact wX2_put_L3 X hE hn fu   fu a0 a1 a2 a3 a4 (0 : Int32) M h
theorem hyX2_put : yX2_put.cls ≠ "java/lang/invoke/MethodHandle" ∧ yX2_put.cls ≠ "java/lang/invoke/VarHandle" ∧ (parseMethodDescriptor yX2_put.desc).map (fun d => d.parameters.length) = some 4 := ⟨by decide +kernel, by decide +kernel, by decide +kernel⟩
theorem ctX2_put (l : Launch) (E : Nat → Nat) (D : va_G) (dA : Nat → ClassId) (lo : Nat) (H0 : Heap) (fu : Nat) (a0 : Nat) (a1 : Option Nat) (a2 : Int32) (a3 : Int32) (a4 : Int32) (M : Mm) (out : Mm) (h : fX2_put fu a0 a1 a2 a3 a4 M = some out) : Ct l E D dA lo H0 yX2_put cX2_put 8 none 1 21 [pR (some a0), pR a1, pI a2, pI a3, pI a4] M none out := by
  refine ct_of (by decide +kernel) (Nat.le_of_ble_eq_true rfl) ?_
  intro x hl he hd ha ho hh hn hin X hE
  exact wX2_put X hE hn fu a0 a1 a2 a3 a4 M h
/-! WebHost$Datagram.isWhole()Z -/
def fX2_isWhole (fu : Nat)  (a0 : Nat)  (M : Mm) : Option (Int32 × Mm) :=
    (gI M 2 133 (some a0)).bind fun v1 =>
    if v1 < 0 then (
    rN .boolean (0 : Int32) M)
    else (
    (gI M 2 134 (some a0)).bind fun v2 =>
    (gI M 2 133 (some a0)).bind fun v3 =>
    if v2 = v3 then (
    rN .boolean (1 : Int32) M)
    else (
    rN .boolean (0 : Int32) M))
theorem dX2_isWhole_0 : decode cX2_isWhole 0 = .ok (.aload_n 0, 1) := by decide +kernel
theorem dX2_isWhole_1 : decode cX2_isWhole 1 = .ok (.getfield 30, 3) := by decide +kernel
theorem dX2_isWhole_4 : decode cX2_isWhole 4 = .ok (.ifCond .lt 18, 3) := by decide +kernel
theorem dX2_isWhole_7 : decode cX2_isWhole 7 = .ok (.aload_n 0, 1) := by decide +kernel
theorem dX2_isWhole_8 : decode cX2_isWhole 8 = .ok (.getfield 33, 3) := by decide +kernel
theorem dX2_isWhole_11 : decode cX2_isWhole 11 = .ok (.aload_n 0, 1) := by decide +kernel
theorem dX2_isWhole_12 : decode cX2_isWhole 12 = .ok (.getfield 30, 3) := by decide +kernel
theorem dX2_isWhole_15 : decode cX2_isWhole 15 = .ok (.if_icmp .ne 7, 3) := by decide +kernel
theorem dX2_isWhole_18 : decode cX2_isWhole 18 = .ok (.iconst 1, 1) := by decide +kernel
theorem dX2_isWhole_19 : decode cX2_isWhole 19 = .ok (.goto 4, 3) := by decide +kernel
theorem dX2_isWhole_22 : decode cX2_isWhole 22 = .ok (.iconst 0, 1) := by decide +kernel
theorem dX2_isWhole_23 : decode cX2_isWhole 23 = .ok (.ireturn, 1) := by decide +kernel
theorem wX2_isWhole {x : GX} {n0 sl0 : Nat} (X : Cx x cX2_isWhole RX2 (some .boolean) n0 sl0 0 0) {out : Int32 × Mm} (hE : Ends x n0 sl0 (some (pI out.1)) out.2) (hn : xn x = 1) (fu : Nat)   (a0 : Nat)  (M : Mm) (h : fX2_isWhole fu  a0 M = some out) : Gw x M 0 [(0, pR (some a0))] [] := by
  unfold fX2_isWhole at h
  refine g_aload_n X (pc := 0) 0 rfl rfl dX2_isWhole_0 ?_
  obtain ⟨v1, ev1, h⟩ := bd h
  refine g_getI X (pc := 1) fk_2_5 rfl rfl ev1 tb_750 dX2_isWhole_1 ?_
  refine g_if_lt X (pc := 4) (tgt := 22) dX2_isWhole_4 (by decide) (fun hc => ?_) (fun hc => ?_)
  · have h := (if_pos hc).symm.trans h
    refine g_iconst X (pc := 22) (v := 0) dX2_isWhole_22 (by decide) ?_
    obtain ⟨hz, rfl⟩ := rN_some h
    exact g_nreturn X rfl hz hE dX2_isWhole_23
  · have h := (if_neg hc).symm.trans h
    refine g_aload_n X (pc := 7) 0 rfl rfl dX2_isWhole_7 ?_
    obtain ⟨v2, ev2, h⟩ := bd h
    refine g_getI X (pc := 8) fk_2_6 rfl rfl ev2 tb_752 dX2_isWhole_8 ?_
    refine g_aload_n X (pc := 11) 0 rfl rfl dX2_isWhole_11 ?_
    obtain ⟨v3, ev3, h⟩ := bd h
    refine g_getI X (pc := 12) fk_2_5 rfl rfl ev3 tb_750 dX2_isWhole_12 ?_
    refine g_icmp_ne X (pc := 15) (tgt := 22) dX2_isWhole_15 (by decide) (fun hc => ?_) (fun hc => ?_)
    · have h := (if_neg hc).symm.trans h
      refine g_iconst X (pc := 22) (v := 0) dX2_isWhole_22 (by decide) ?_
      obtain ⟨hz, rfl⟩ := rN_some h
      exact g_nreturn X rfl hz hE dX2_isWhole_23
    · have h := (if_pos hc).symm.trans h
      refine g_iconst X (pc := 18) (v := 1) dX2_isWhole_18 (by decide) ?_
      refine g_goto X (pc := 19) (tgt := 23) dX2_isWhole_19 (by decide) ?_
      obtain ⟨hz, rfl⟩ := rN_some h
      exact g_nreturn X rfl hz hE dX2_isWhole_23
theorem hyX2_isWhole : yX2_isWhole.cls ≠ "java/lang/invoke/MethodHandle" ∧ yX2_isWhole.cls ≠ "java/lang/invoke/VarHandle" ∧ (parseMethodDescriptor yX2_isWhole.desc).map (fun d => d.parameters.length) = some 0 := ⟨by decide +kernel, by decide +kernel, by decide +kernel⟩
theorem ctX2_isWhole (l : Launch) (E : Nat → Nat) (D : va_G) (dA : Nat → ClassId) (lo : Nat) (H0 : Heap) (fu : Nat) (a0 : Nat) (M : Mm) (out : Int32 × Mm) (h : fX2_isWhole fu a0 M = some out) : Ct l E D dA lo H0 yX2_isWhole cX2_isWhole 1 (some .boolean) 0 0 [pR (some a0)] M (some (pI out.1)) out.2 := by
  refine ct_of (by decide +kernel) (Nat.le_of_ble_eq_true rfl) ?_
  intro x hl he hd ha ho hh hn hin X hE
  exact wX2_isWhole X hE hn fu a0 M h
/-! WebHost$Intake.<init>(LWebHost$Wire;LWebHost$Link;)V -/
def fX3_init (fu : Nat)  (a0 : Nat) (a1 : Option Nat) (a2 : Option Nat)  (M : Mm) : Option (Mm) :=
    (pG M 3 205 (some a0) a1).bind fun M1 =>
    (pG M1 3 206 (some a0) a2).bind fun M2 =>
    b2 (mkA M2 100 (0 : Int32)) fun v3 M4 =>
    (pG M4 3 192 (some a0) (some v3)).bind fun M5 =>
    b2 (mkA M5 112 (4 : Int32)) fun v6 M7 =>
    (pG M7 3 207 (some a0) (some v6)).bind fun M8 =>
    some M8
theorem dX3_init_0 : decode cX3_init 0 = .ok (.aload_n 0, 1) := by decide +kernel
theorem dX3_init_1 : decode cX3_init 1 = .ok (.invokespecial 3, 3) := by decide +kernel
theorem dX3_init_4 : decode cX3_init 4 = .ok (.aload_n 0, 1) := by decide +kernel
theorem dX3_init_5 : decode cX3_init 5 = .ok (.aload_n 1, 1) := by decide +kernel
theorem dX3_init_6 : decode cX3_init 6 = .ok (.putfield 9, 3) := by decide +kernel
theorem dX3_init_9 : decode cX3_init 9 = .ok (.aload_n 0, 1) := by decide +kernel
theorem dX3_init_10 : decode cX3_init 10 = .ok (.aload_n 2, 1) := by decide +kernel
theorem dX3_init_11 : decode cX3_init 11 = .ok (.putfield 15, 3) := by decide +kernel
theorem dX3_init_14 : decode cX3_init 14 = .ok (.aload_n 0, 1) := by decide +kernel
theorem dX3_init_15 : decode cX3_init 15 = .ok (.iconst 0, 1) := by decide +kernel
theorem dX3_init_16 : decode cX3_init 16 = .ok (.newarray .byte, 2) := by decide +kernel
theorem dX3_init_18 : decode cX3_init 18 = .ok (.putfield 19, 3) := by decide +kernel
theorem dX3_init_21 : decode cX3_init 21 = .ok (.aload_n 0, 1) := by decide +kernel
theorem dX3_init_22 : decode cX3_init 22 = .ok (.iconst 4, 1) := by decide +kernel
theorem dX3_init_23 : decode cX3_init 23 = .ok (.anewarray 23, 3) := by decide +kernel
theorem dX3_init_26 : decode cX3_init 26 = .ok (.putfield 25, 3) := by decide +kernel
theorem dX3_init_29 : decode cX3_init 29 = .ok (.return_, 1) := by decide +kernel
theorem wX3_init {x : GX} {n0 sl0 : Nat} (X : Cx x cX3_init RX3 none n0 sl0 1 12) {out : Mm} (hE : Ends x n0 sl0 none out) (hn : xn x = 3) (hin : (xt x).name = "<init>") (fu : Nat)   (a0 : Nat) (a1 : Option Nat) (a2 : Option Nat)  (M : Mm) (h : fX3_init fu  a0 a1 a2 M = some out) : Gw x M 0 [(0, pR (some a0)), (1, pR a1), (2, pR a2)] [] := by
  unfold fX3_init at h
  refine g_aload_n X (pc := 0) 0 rfl rfl dX3_init_0 ?_
  refine g_objInit X (pc := 1) (o := (some a0)) ⟨_, rfl⟩ tb_155 tb_32 tb_33 ⟨by decide, Nat.le_of_ble_eq_true rfl⟩ dX3_init_1 ?_
  refine g_aload_n X (pc := 4) 0 rfl rfl dX3_init_4 ?_
  refine g_aload_n X (pc := 5) 1 rfl rfl dX3_init_5 ?_
  obtain ⟨M1, eM1, h⟩ := bd h
  refine g_putG X (pc := 6) fk_3_13 rfl rfl rfl eM1 tb_187 (Or.inr ⟨rfl, hin, rfl⟩) dX3_init_6 ?_
  refine g_aload_n X (pc := 9) 0 rfl rfl dX3_init_9 ?_
  refine g_aload_n X (pc := 10) 2 rfl rfl dX3_init_10 ?_
  obtain ⟨M2, eM2, h⟩ := bd h
  refine g_putG X (pc := 11) fk_3_14 rfl rfl rfl eM2 tb_188 (Or.inr ⟨rfl, hin, rfl⟩) dX3_init_11 ?_
  refine g_aload_n X (pc := 14) 0 rfl rfl dX3_init_14 ?_
  refine g_iconst X (pc := 15) (v := 0) dX3_init_15 (by decide) ?_
  obtain ⟨v3, M4, eM4, h⟩ := b2d h
  refine g_newarray X (pc := 16) (at9 := .byte) (k := 0) rfl (by decide) rfl (by decide) (fun _ _ q => q) tb_53 eM4 dX3_init_16 ?_
  obtain ⟨M5, eM5, h⟩ := bd h
  refine g_putG X (pc := 18) fk_3_0 rfl rfl rfl eM5 tb_158 (Or.inl rfl) dX3_init_18 ?_
  refine g_aload_n X (pc := 21) 0 rfl rfl dX3_init_21 ?_
  refine g_iconst X (pc := 22) (v := 4) dX3_init_22 (by decide) ?_
  obtain ⟨v6, M7, eM7, h⟩ := b2d h
  refine g_anewarray X (pc := 23) (k := 4) rfl (by decide) (by decide) tb_156 eM7 dX3_init_23 ?_
  obtain ⟨M8, eM8, h⟩ := bd h
  refine g_putG X (pc := 26) fk_3_15 rfl rfl rfl eM8 tb_189 (Or.inr ⟨rfl, hin, rfl⟩) dX3_init_26 ?_
  obtain rfl := Option.some.inj h
  exact g_return X hE dX3_init_29
theorem hyX3_init : yX3_init.cls ≠ "java/lang/invoke/MethodHandle" ∧ yX3_init.cls ≠ "java/lang/invoke/VarHandle" ∧ (parseMethodDescriptor yX3_init.desc).map (fun d => d.parameters.length) = some 2 := ⟨by decide +kernel, by decide +kernel, by decide +kernel⟩
theorem ctX3_init (l : Launch) (E : Nat → Nat) (D : va_G) (dA : Nat → ClassId) (lo : Nat) (H0 : Heap) (fu : Nat) (a0 : Nat) (a1 : Option Nat) (a2 : Option Nat) (M : Mm) (out : Mm) (h : fX3_init fu a0 a1 a2 M = some out) : Ct l E D dA lo H0 yX3_init cX3_init 3 none 1 12 [pR (some a0), pR a1, pR a2] M none out := by
  refine ct_of (by decide +kernel) (Nat.le_of_ble_eq_true rfl) ?_
  intro x hl he hd ha ho hh hn hin X hE
  exact wX3_init X hE hn hin fu a0 a1 a2 M h
/-! WebHost$Intake.restart()V -/
def fX3_restart (fu : Nat)  (a0 : Nat)  (M : Mm) : Option (Mm) :=
    (pF M 3 208 (some a0) (0 : Int32)).bind fun M1 =>
    some M1
theorem dX3_restart_0 : decode cX3_restart 0 = .ok (.aload_n 0, 1) := by decide +kernel
theorem dX3_restart_1 : decode cX3_restart 1 = .ok (.iconst 0, 1) := by decide +kernel
theorem dX3_restart_2 : decode cX3_restart 2 = .ok (.putfield 29, 3) := by decide +kernel
theorem dX3_restart_5 : decode cX3_restart 5 = .ok (.return_, 1) := by decide +kernel
theorem wX3_restart {x : GX} {n0 sl0 : Nat} (X : Cx x cX3_restart RX3 none n0 sl0 0 0) {out : Mm} (hE : Ends x n0 sl0 none out) (hn : xn x = 1) (fu : Nat)   (a0 : Nat)  (M : Mm) (h : fX3_restart fu  a0 M = some out) : Gw x M 0 [(0, pR (some a0))] [] := by
  unfold fX3_restart at h
  refine g_aload_n X (pc := 0) 0 rfl rfl dX3_restart_0 ?_
  refine g_iconst X (pc := 1) (v := 0) dX3_restart_1 (by decide) ?_
  obtain ⟨M1, eM1, h⟩ := bd h
  refine g_putI X (pc := 2) fk_3_16 rfl rfl rfl eM1 tb_190 (Or.inl rfl) dX3_restart_2 ?_
  obtain rfl := Option.some.inj h
  exact g_return X hE dX3_restart_5
theorem hyX3_restart : yX3_restart.cls ≠ "java/lang/invoke/MethodHandle" ∧ yX3_restart.cls ≠ "java/lang/invoke/VarHandle" ∧ (parseMethodDescriptor yX3_restart.desc).map (fun d => d.parameters.length) = some 0 := ⟨by decide +kernel, by decide +kernel, by decide +kernel⟩
theorem ctX3_restart (l : Launch) (E : Nat → Nat) (D : va_G) (dA : Nat → ClassId) (lo : Nat) (H0 : Heap) (fu : Nat) (a0 : Nat) (M : Mm) (out : Mm) (h : fX3_restart fu a0 M = some out) : Ct l E D dA lo H0 yX3_restart cX3_restart 1 none 0 0 [pR (some a0)] M none out := by
  refine ct_of (by decide +kernel) (Nat.le_of_ble_eq_true rfl) ?_
  intro x hl he hd ha ho hh hn hin X hE
  exact wX3_restart X hE hn fu a0 M h
/-! WebHost.four([BI)I -/
def fX11_four (fu : Nat)  (a0 : Option Nat) (a1 : Int32)  (M : Mm) : Option (Int32 × Mm) :=
    if a1 < 0 then (
    some ((0 : Int32), M))
    else (
    (aL M 100 a0).bind fun v1 =>
    if a1 ≤ (v1 - (4 : Int32)) then (
    (gA M 100 a0 a1).bind fun v2 =>
    (gA M 100 a0 (a1 + (1 : Int32))).bind fun v3 =>
    (gA M 100 a0 (a1 + (2 : Int32))).bind fun v4 =>
    (gA M 100 a0 (a1 + (3 : Int32))).bind fun v5 =>
    some (((((v2 <<< ((24 : Int32) &&& 31)) ||| ((v3 &&& (255 : Int32)) <<< ((16 : Int32) &&& 31))) ||| ((v4 &&& (255 : Int32)) <<< ((8 : Int32) &&& 31))) ||| (v5 &&& (255 : Int32))), M))
    else (
    some ((0 : Int32), M)))
theorem dX11_four_0 : decode cX11_four 0 = .ok (.iload_n 1, 1) := by decide +kernel
theorem dX11_four_1 : decode cX11_four 1 = .ok (.ifCond .lt 11, 3) := by decide +kernel
theorem dX11_four_4 : decode cX11_four 4 = .ok (.iload_n 1, 1) := by decide +kernel
theorem dX11_four_5 : decode cX11_four 5 = .ok (.aload_n 0, 1) := by decide +kernel
theorem dX11_four_6 : decode cX11_four 6 = .ok (.arraylength, 1) := by decide +kernel
theorem dX11_four_7 : decode cX11_four 7 = .ok (.iconst 4, 1) := by decide +kernel
theorem dX11_four_8 : decode cX11_four 8 = .ok (.isub, 1) := by decide +kernel
theorem dX11_four_9 : decode cX11_four 9 = .ok (.if_icmp .le 5, 3) := by decide +kernel
theorem dX11_four_12 : decode cX11_four 12 = .ok (.iconst 0, 1) := by decide +kernel
theorem dX11_four_13 : decode cX11_four 13 = .ok (.ireturn, 1) := by decide +kernel
theorem dX11_four_14 : decode cX11_four 14 = .ok (.aload_n 0, 1) := by decide +kernel
theorem dX11_four_15 : decode cX11_four 15 = .ok (.iload_n 1, 1) := by decide +kernel
theorem dX11_four_16 : decode cX11_four 16 = .ok (.baload, 1) := by decide +kernel
theorem dX11_four_17 : decode cX11_four 17 = .ok (.bipush 24, 2) := by decide +kernel
theorem dX11_four_19 : decode cX11_four 19 = .ok (.ishl, 1) := by decide +kernel
theorem dX11_four_20 : decode cX11_four 20 = .ok (.aload_n 0, 1) := by decide +kernel
theorem dX11_four_21 : decode cX11_four 21 = .ok (.iload_n 1, 1) := by decide +kernel
theorem dX11_four_22 : decode cX11_four 22 = .ok (.iconst 1, 1) := by decide +kernel
theorem dX11_four_23 : decode cX11_four 23 = .ok (.iadd, 1) := by decide +kernel
theorem dX11_four_24 : decode cX11_four 24 = .ok (.baload, 1) := by decide +kernel
theorem dX11_four_25 : decode cX11_four 25 = .ok (.sipush 255, 3) := by decide +kernel
theorem dX11_four_28 : decode cX11_four 28 = .ok (.iand, 1) := by decide +kernel
theorem dX11_four_29 : decode cX11_four 29 = .ok (.bipush 16, 2) := by decide +kernel
theorem dX11_four_31 : decode cX11_four 31 = .ok (.ishl, 1) := by decide +kernel
theorem dX11_four_32 : decode cX11_four 32 = .ok (.ior, 1) := by decide +kernel
theorem dX11_four_33 : decode cX11_four 33 = .ok (.aload_n 0, 1) := by decide +kernel
theorem dX11_four_34 : decode cX11_four 34 = .ok (.iload_n 1, 1) := by decide +kernel
theorem dX11_four_35 : decode cX11_four 35 = .ok (.iconst 2, 1) := by decide +kernel
theorem dX11_four_36 : decode cX11_four 36 = .ok (.iadd, 1) := by decide +kernel
theorem dX11_four_37 : decode cX11_four 37 = .ok (.baload, 1) := by decide +kernel
theorem dX11_four_38 : decode cX11_four 38 = .ok (.sipush 255, 3) := by decide +kernel
theorem dX11_four_41 : decode cX11_four 41 = .ok (.iand, 1) := by decide +kernel
theorem dX11_four_42 : decode cX11_four 42 = .ok (.bipush 8, 2) := by decide +kernel
theorem dX11_four_44 : decode cX11_four 44 = .ok (.ishl, 1) := by decide +kernel
theorem dX11_four_45 : decode cX11_four 45 = .ok (.ior, 1) := by decide +kernel
theorem dX11_four_46 : decode cX11_four 46 = .ok (.aload_n 0, 1) := by decide +kernel
theorem dX11_four_47 : decode cX11_four 47 = .ok (.iload_n 1, 1) := by decide +kernel
theorem dX11_four_48 : decode cX11_four 48 = .ok (.iconst 3, 1) := by decide +kernel
theorem dX11_four_49 : decode cX11_four 49 = .ok (.iadd, 1) := by decide +kernel
theorem dX11_four_50 : decode cX11_four 50 = .ok (.baload, 1) := by decide +kernel
theorem dX11_four_51 : decode cX11_four 51 = .ok (.sipush 255, 3) := by decide +kernel
theorem dX11_four_54 : decode cX11_four 54 = .ok (.iand, 1) := by decide +kernel
theorem dX11_four_55 : decode cX11_four 55 = .ok (.ior, 1) := by decide +kernel
theorem dX11_four_56 : decode cX11_four 56 = .ok (.ireturn, 1) := by decide +kernel
theorem wX11_four {x : GX} {n0 sl0 : Nat} (X : Cx x cX11_four RX11 (some .int) n0 sl0 0 0) {out : Int32 × Mm} (hE : Ends x n0 sl0 (some (pI out.1)) out.2) (hn : xn x = 2) (fu : Nat)   (a0 : Option Nat) (a1 : Int32)  (M : Mm) (h : fX11_four fu  a0 a1 M = some out) : Gw x M 0 [(0, pR a0), (1, pI a1)] [] := by
  unfold fX11_four at h
  refine g_iload_n X (pc := 0) 1 rfl rfl dX11_four_0 ?_
  refine g_if_lt X (pc := 1) (tgt := 12) dX11_four_1 (by decide) (fun hc => ?_) (fun hc => ?_)
  · have h := (if_pos hc).symm.trans h
    refine g_iconst X (pc := 12) (v := 0) dX11_four_12 (by decide) ?_
    obtain rfl := Option.some.inj h
    exact g_ireturn X hE dX11_four_13
  · have h := (if_neg hc).symm.trans h
    refine g_iload_n X (pc := 4) 1 rfl rfl dX11_four_4 ?_
    refine g_aload_n X (pc := 5) 0 rfl rfl dX11_four_5 ?_
    obtain ⟨v1, ev1, h⟩ := bd h
    refine g_alen X (pc := 6) (k := 0) rfl (by decide) ev1 dX11_four_6 ?_
    refine g_iconst X (pc := 7) (v := 4) dX11_four_7 (by decide) ?_
    refine g_isub X (pc := 8) dX11_four_8 ?_
    refine g_icmp_le X (pc := 9) (tgt := 14) dX11_four_9 (by decide) (fun hc => ?_) (fun hc => ?_)
    · have h := (if_pos hc).symm.trans h
      refine g_aload_n X (pc := 14) 0 rfl rfl dX11_four_14 ?_
      refine g_iload_n X (pc := 15) 1 rfl rfl dX11_four_15 ?_
      obtain ⟨v2, ev2, h⟩ := bd h
      refine g_baload X (pc := 16) ev2 dX11_four_16 ?_
      refine g_bipush X (pc := 17) (v := 24) dX11_four_17 (by decide) ?_
      refine g_ishl X (pc := 19) dX11_four_19 ?_
      refine g_aload_n X (pc := 20) 0 rfl rfl dX11_four_20 ?_
      refine g_iload_n X (pc := 21) 1 rfl rfl dX11_four_21 ?_
      refine g_iconst X (pc := 22) (v := 1) dX11_four_22 (by decide) ?_
      refine g_iadd X (pc := 23) dX11_four_23 ?_
      obtain ⟨v3, ev3, h⟩ := bd h
      refine g_baload X (pc := 24) ev3 dX11_four_24 ?_
      refine g_sipush X (pc := 25) (v := 255) dX11_four_25 (by decide) ?_
      refine g_iand X (pc := 28) dX11_four_28 ?_
      refine g_bipush X (pc := 29) (v := 16) dX11_four_29 (by decide) ?_
      refine g_ishl X (pc := 31) dX11_four_31 ?_
      refine g_ior X (pc := 32) dX11_four_32 ?_
      refine g_aload_n X (pc := 33) 0 rfl rfl dX11_four_33 ?_
      refine g_iload_n X (pc := 34) 1 rfl rfl dX11_four_34 ?_
      refine g_iconst X (pc := 35) (v := 2) dX11_four_35 (by decide) ?_
      refine g_iadd X (pc := 36) dX11_four_36 ?_
      obtain ⟨v4, ev4, h⟩ := bd h
      refine g_baload X (pc := 37) ev4 dX11_four_37 ?_
      refine g_sipush X (pc := 38) (v := 255) dX11_four_38 (by decide) ?_
      refine g_iand X (pc := 41) dX11_four_41 ?_
      refine g_bipush X (pc := 42) (v := 8) dX11_four_42 (by decide) ?_
      refine g_ishl X (pc := 44) dX11_four_44 ?_
      refine g_ior X (pc := 45) dX11_four_45 ?_
      refine g_aload_n X (pc := 46) 0 rfl rfl dX11_four_46 ?_
      refine g_iload_n X (pc := 47) 1 rfl rfl dX11_four_47 ?_
      refine g_iconst X (pc := 48) (v := 3) dX11_four_48 (by decide) ?_
      refine g_iadd X (pc := 49) dX11_four_49 ?_
      obtain ⟨v5, ev5, h⟩ := bd h
      refine g_baload X (pc := 50) ev5 dX11_four_50 ?_
      refine g_sipush X (pc := 51) (v := 255) dX11_four_51 (by decide) ?_
      refine g_iand X (pc := 54) dX11_four_54 ?_
      refine g_ior X (pc := 55) dX11_four_55 ?_
      obtain rfl := Option.some.inj h
      exact g_ireturn X hE dX11_four_56
    · have h := (if_neg hc).symm.trans h
      refine g_iconst X (pc := 12) (v := 0) dX11_four_12 (by decide) ?_
      obtain rfl := Option.some.inj h
      exact g_ireturn X hE dX11_four_13
theorem hyX11_four : yX11_four.cls ≠ "java/lang/invoke/MethodHandle" ∧ yX11_four.cls ≠ "java/lang/invoke/VarHandle" ∧ (parseMethodDescriptor yX11_four.desc).map (fun d => d.parameters.length) = some 2 := ⟨by decide +kernel, by decide +kernel, by decide +kernel⟩
theorem ctX11_four (l : Launch) (E : Nat → Nat) (D : va_G) (dA : Nat → ClassId) (lo : Nat) (H0 : Heap) (fu : Nat) (a0 : Option Nat) (a1 : Int32) (M : Mm) (out : Int32 × Mm) (h : fX11_four fu a0 a1 M = some out) : Ct l E D dA lo H0 yX11_four cX11_four 2 (some .int) 0 0 [pR a0, pI a1] M (some (pI out.1)) out.2 := by
  refine ct_of (by decide +kernel) (Nat.le_of_ble_eq_true rfl) ?_
  intro x hl he hd ha ho hh hn hin X hE
  exact wX11_four X hE hn fu a0 a1 M h
/-! WebHost$Intake.isForUs([B)Z -/
def fX3_isForUs_L34 (fu : Nat)  (a2 : Int32) (a3 : Int32)  (M : Mm) : Option (Int32 × Mm) :=
    if a2 = (65535 : Int32) then (
    if a3 = (-1 : Int32) then (
    rN .boolean (1 : Int32) M)
    else (
    rN .boolean (0 : Int32) M))
    else (
    rN .boolean (0 : Int32) M)
def fX3_isForUs (fu : Nat)  (a0 : Nat) (a1 : Option Nat)  (M : Mm) : Option (Int32 × Mm) :=
    b2 (fX11_two fu  a1 (0 : Int32) M) fun v2 M1 =>
    b2 (fX11_four fu  a1 (2 : Int32) M1) fun v4 M3 =>
    (gR M3 3 206 (some a0)).bind fun v5 =>
    (gI M3 4 258 v5).bind fun v6 =>
    if v2 = v6 then (
    (gR M3 3 206 (some a0)).bind fun v7 =>
    (gI M3 4 259 v7).bind fun v8 =>
    if v4 = v8 then (
    rN .boolean (1 : Int32) M3)
    else (
    fX3_isForUs_L34 fu  v2 v4 M3))
    else (
    fX3_isForUs_L34 fu  v2 v4 M3)
theorem dX3_isForUs_0 : decode cX3_isForUs 0 = .ok (.aload_n 1, 1) := by decide +kernel
theorem dX3_isForUs_1 : decode cX3_isForUs 1 = .ok (.iconst 0, 1) := by decide +kernel
theorem dX3_isForUs_2 : decode cX3_isForUs 2 = .ok (.invokestatic 37, 3) := by decide +kernel
theorem dX3_isForUs_5 : decode cX3_isForUs 5 = .ok (.istore_n 2, 1) := by decide +kernel
theorem dX3_isForUs_6 : decode cX3_isForUs 6 = .ok (.aload_n 1, 1) := by decide +kernel
theorem dX3_isForUs_7 : decode cX3_isForUs 7 = .ok (.iconst 2, 1) := by decide +kernel
theorem dX3_isForUs_8 : decode cX3_isForUs 8 = .ok (.invokestatic 48, 3) := by decide +kernel
theorem dX3_isForUs_11 : decode cX3_isForUs 11 = .ok (.istore_n 3, 1) := by decide +kernel
theorem dX3_isForUs_12 : decode cX3_isForUs 12 = .ok (.iload_n 2, 1) := by decide +kernel
theorem dX3_isForUs_13 : decode cX3_isForUs 13 = .ok (.aload_n 0, 1) := by decide +kernel
theorem dX3_isForUs_14 : decode cX3_isForUs 14 = .ok (.getfield 15, 3) := by decide +kernel
theorem dX3_isForUs_17 : decode cX3_isForUs 17 = .ok (.getfield 51, 3) := by decide +kernel
theorem dX3_isForUs_20 : decode cX3_isForUs 20 = .ok (.if_icmp .ne 14, 3) := by decide +kernel
theorem dX3_isForUs_23 : decode cX3_isForUs 23 = .ok (.iload_n 3, 1) := by decide +kernel
theorem dX3_isForUs_24 : decode cX3_isForUs 24 = .ok (.aload_n 0, 1) := by decide +kernel
theorem dX3_isForUs_25 : decode cX3_isForUs 25 = .ok (.getfield 15, 3) := by decide +kernel
theorem dX3_isForUs_28 : decode cX3_isForUs 28 = .ok (.getfield 56, 3) := by decide +kernel
theorem dX3_isForUs_31 : decode cX3_isForUs 31 = .ok (.if_icmp .eq 14, 3) := by decide +kernel
theorem dX3_isForUs_34 : decode cX3_isForUs 34 = .ok (.iload_n 2, 1) := by decide +kernel
theorem dX3_isForUs_35 : decode cX3_isForUs 35 = .ok (.ldc 59, 2) := by decide +kernel
theorem dX3_isForUs_37 : decode cX3_isForUs 37 = .ok (.if_icmp .ne 12, 3) := by decide +kernel
theorem dX3_isForUs_40 : decode cX3_isForUs 40 = .ok (.iload_n 3, 1) := by decide +kernel
theorem dX3_isForUs_41 : decode cX3_isForUs 41 = .ok (.iconst (-1), 1) := by decide +kernel
theorem dX3_isForUs_42 : decode cX3_isForUs 42 = .ok (.if_icmp .ne 7, 3) := by decide +kernel
theorem dX3_isForUs_45 : decode cX3_isForUs 45 = .ok (.iconst 1, 1) := by decide +kernel
theorem dX3_isForUs_46 : decode cX3_isForUs 46 = .ok (.goto 4, 3) := by decide +kernel
theorem dX3_isForUs_49 : decode cX3_isForUs 49 = .ok (.iconst 0, 1) := by decide +kernel
theorem dX3_isForUs_50 : decode cX3_isForUs 50 = .ok (.ireturn, 1) := by decide +kernel
theorem wX3_isForUs_L34 {x : GX} {n0 sl0 : Nat} (X : Cx x cX3_isForUs RX3 (some .boolean) n0 sl0 1 21) {out : Int32 × Mm} (hE : Ends x n0 sl0 (some (pI out.1)) out.2) (hn : xn x = 4) (fu : Nat)   (a2 : Int32) (a3 : Int32)  (M : Mm) (h : fX3_isForUs_L34 fu  a2 a3 M = some out) : Gw x M 34 [(2, pI a2), (3, pI a3)] [] := by
  unfold fX3_isForUs_L34 at h
  refine g_iload_n X (pc := 34) 0 rfl rfl dX3_isForUs_34 ?_
  refine g_ldc X (pc := 35) tb_718 dX3_isForUs_35 ?_
  refine g_icmp_ne X (pc := 37) (tgt := 49) dX3_isForUs_37 (by decide) (fun hc => ?_) (fun hc => ?_)
  · have h := (if_neg hc).symm.trans h
    refine g_iconst X (pc := 49) (v := 0) dX3_isForUs_49 (by decide) ?_
    obtain ⟨hz, rfl⟩ := rN_some h
    exact g_nreturn X rfl hz hE dX3_isForUs_50
  · have h := (if_pos hc).symm.trans h
    refine g_iload_n X (pc := 40) 1 rfl rfl dX3_isForUs_40 ?_
    refine g_iconst X (pc := 41) (v := (-1)) dX3_isForUs_41 (by decide) ?_
    refine g_icmp_ne X (pc := 42) (tgt := 49) dX3_isForUs_42 (by decide) (fun hc => ?_) (fun hc => ?_)
    · have h := (if_neg hc).symm.trans h
      refine g_iconst X (pc := 49) (v := 0) dX3_isForUs_49 (by decide) ?_
      obtain ⟨hz, rfl⟩ := rN_some h
      exact g_nreturn X rfl hz hE dX3_isForUs_50
    · have h := (if_pos hc).symm.trans h
      refine g_iconst X (pc := 45) (v := 1) dX3_isForUs_45 (by decide) ?_
      refine g_goto X (pc := 46) (tgt := 50) dX3_isForUs_46 (by decide) ?_
      obtain ⟨hz, rfl⟩ := rN_some h
      exact g_nreturn X rfl hz hE dX3_isForUs_50
theorem wX3_isForUs {x : GX} {n0 sl0 : Nat} (X : Cx x cX3_isForUs RX3 (some .boolean) n0 sl0 1 21) {out : Int32 × Mm} (hE : Ends x n0 sl0 (some (pI out.1)) out.2) (hn : xn x = 4) (fu : Nat)   (a0 : Nat) (a1 : Option Nat)  (M : Mm) (h : fX3_isForUs fu  a0 a1 M = some out) : Gw x M 0 [(0, pR (some a0)), (1, pR a1)] [] := by
  unfold fX3_isForUs at h
  refine g_aload_n X (pc := 0) 1 rfl rfl dX3_isForUs_0 ?_
  refine g_iconst X (pc := 1) (v := 0) dX3_isForUs_1 (by decide) ?_
  obtain ⟨v2, M1, eM1, h⟩ := b2d h
  refine g_callSN X (pc := 2) (M' := M1) (ro := some (pI v2)) (as := [pR a1, pI (0 : Int32)]) (as' := [pI (0 : Int32), pR a1]) (st := []) (ctX11_two _ _ _ _ _ _ fu  a1 (0 : Int32) M _ eM1) tb_398 (List.mem_of_getElem? (i := 11) rfl) tb_397 tb_1 hyX11_two rfl rfl ⟨by decide, by decide⟩ (Nat.le_of_ble_eq_true rfl) dX3_isForUs_2 ?_
  refine g_istore_n X (pc := 5) [(2, pI v2), (0, pR (some a0)), (1, pR a1)] rfl (lt_n hn (by decide)) rfl dX3_isForUs_5 ?_
  refine g_aload_n X (pc := 6) 2 rfl rfl dX3_isForUs_6 ?_
  refine g_iconst X (pc := 7) (v := 2) dX3_isForUs_7 (by decide) ?_
  obtain ⟨v4, M3, eM3, h⟩ := b2d h
  refine g_callSN X (pc := 8) (M' := M3) (ro := some (pI v4)) (as := [pR a1, pI (2 : Int32)]) (as' := [pI (2 : Int32), pR a1]) (st := []) (ctX11_four _ _ _ _ _ _ fu  a1 (2 : Int32) M1 _ eM3) tb_394 (List.mem_of_getElem? (i := 12) rfl) tb_393 tb_1 hyX11_four rfl rfl ⟨by decide, by decide⟩ (Nat.le_of_ble_eq_true rfl) dX3_isForUs_8 ?_
  refine g_istore_n X (pc := 11) [(3, pI v4), (2, pI v2), (0, pR (some a0)), (1, pR a1)] rfl (lt_n hn (by decide)) rfl dX3_isForUs_11 ?_
  refine g_iload_n X (pc := 12) 1 rfl rfl dX3_isForUs_12 ?_
  refine g_aload_n X (pc := 13) 2 rfl rfl dX3_isForUs_13 ?_
  obtain ⟨v5, ev5, h⟩ := bd h
  refine g_getR X (pc := 14) fk_3_14 rfl rfl ev5 tb_188 dX3_isForUs_14 ?_
  obtain ⟨v6, ev6, h⟩ := bd h
  refine g_getI X (pc := 17) fk_4_2 rfl rfl ev6 tb_104 dX3_isForUs_17 ?_
  refine g_icmp_ne X (pc := 20) (tgt := 34) dX3_isForUs_20 (by decide) (fun hc => ?_) (fun hc => ?_)
  · have h := (if_neg hc).symm.trans h
    refine g_sub [1, 0] [(2, pI v2), (3, pI v4)] rfl ?_
    exact wX3_isForUs_L34 X hE hn fu   v2 v4 M3 h
  · have h := (if_pos hc).symm.trans h
    refine g_iload_n X (pc := 23) 0 rfl rfl dX3_isForUs_23 ?_
    refine g_aload_n X (pc := 24) 2 rfl rfl dX3_isForUs_24 ?_
    obtain ⟨v7, ev7, h⟩ := bd h
    refine g_getR X (pc := 25) fk_3_14 rfl rfl ev7 tb_188 dX3_isForUs_25 ?_
    obtain ⟨v8, ev8, h⟩ := bd h
    refine g_getI X (pc := 28) fk_4_3 rfl rfl ev8 tb_106 dX3_isForUs_28 ?_
    refine g_icmp_eq X (pc := 31) (tgt := 45) dX3_isForUs_31 (by decide) (fun hc => ?_) (fun hc => ?_)
    · have h := (if_pos hc).symm.trans h
      refine g_iconst X (pc := 45) (v := 1) dX3_isForUs_45 (by decide) ?_
      refine g_goto X (pc := 46) (tgt := 50) dX3_isForUs_46 (by decide) ?_
      obtain ⟨hz, rfl⟩ := rN_some h
      exact g_nreturn X rfl hz hE dX3_isForUs_50
    · have h := (if_neg hc).symm.trans h
      refine g_sub [1, 0] [(2, pI v2), (3, pI v4)] rfl ?_
      exact wX3_isForUs_L34 X hE hn fu   v2 v4 M3 h
theorem hyX3_isForUs : yX3_isForUs.cls ≠ "java/lang/invoke/MethodHandle" ∧ yX3_isForUs.cls ≠ "java/lang/invoke/VarHandle" ∧ (parseMethodDescriptor yX3_isForUs.desc).map (fun d => d.parameters.length) = some 1 := ⟨by decide +kernel, by decide +kernel, by decide +kernel⟩
theorem ctX3_isForUs (l : Launch) (E : Nat → Nat) (D : va_G) (dA : Nat → ClassId) (lo : Nat) (H0 : Heap) (fu : Nat) (a0 : Nat) (a1 : Option Nat) (M : Mm) (out : Int32 × Mm) (h : fX3_isForUs fu a0 a1 M = some out) : Ct l E D dA lo H0 yX3_isForUs cX3_isForUs 4 (some .boolean) 1 21 [pR (some a0), pR a1] M (some (pI out.1)) out.2 := by
  refine ct_of (by decide +kernel) (Nat.le_of_ble_eq_true rfl) ?_
  intro x hl he hd ha ho hh hn hin X hE
  exact wX3_isForUs X hE hn fu a0 a1 M h
/-! WebHost.added([BIII)I -/
def fX11_added_L67 (fu : Nat) (k20 : Option Nat → Int32 → Int32 → Int32 → Mm → Option (Int32 × Mm)) (a0 : Option Nat) (a4 : Int32) (a5 : Int32) (a6 : Int32)  (M : Mm) : Option (Int32 × Mm) :=
    k20 a0 a4 a5 (a6 + (2 : Int32)) M
def fX11_added_L20 (fu : Nat)  : Nat → Option Nat → Int32 → Int32 → Int32 → Mm → Option (Int32 × Mm)
  | 0, _, _, _, _, _ => none
  | n + 1, a0, a4, a5, a6, M =>
    if a5 ≤ a6 then (
    (some ((a4 &&& (65535 : Int32)) + (ushr a4 (16 : Int32)))).bind fun v1 =>
    some (((v1 &&& (65535 : Int32)) + (ushr v1 (16 : Int32))), M))
    else (
    (gA M 100 a0 a6).bind fun v2 =>
    (some (a4 + ((v2 &&& (255 : Int32)) <<< ((8 : Int32) &&& 31)))).bind fun v3 =>
    if a5 ≤ (a6 + (1 : Int32)) then (
    fX11_added_L67 fu (fun b0 b4 b5 b6 M => fX11_added_L20 fu  n b0 b4 b5 b6 M) a0 v3 a5 a6 M)
    else (
    (gA M 100 a0 (a6 + (1 : Int32))).bind fun v4 =>
    fX11_added_L67 fu (fun b0 b4 b5 b6 M => fX11_added_L20 fu  n b0 b4 b5 b6 M) a0 (v3 + (v4 &&& (255 : Int32))) a5 a6 M))
def fX11_added (fu : Nat)  (a0 : Option Nat) (a1 : Int32) (a2 : Int32) (a3 : Int32)  (M : Mm) : Option (Int32 × Mm) :=
    (aL M 100 a0).bind fun v1 =>
    fX11_added_L20 fu  fu a0 a3 (jmin (a1 + a2) v1) (jmax a1 (0 : Int32)) M
theorem dX11_added_0 : decode cX11_added 0 = .ok (.iload_n 3, 1) := by decide +kernel
theorem dX11_added_1 : decode cX11_added 1 = .ok (.istore 4, 2) := by decide +kernel
theorem dX11_added_3 : decode cX11_added 3 = .ok (.iload_n 1, 1) := by decide +kernel
theorem dX11_added_4 : decode cX11_added 4 = .ok (.iload_n 2, 1) := by decide +kernel
theorem dX11_added_5 : decode cX11_added 5 = .ok (.iadd, 1) := by decide +kernel
theorem dX11_added_6 : decode cX11_added 6 = .ok (.aload_n 0, 1) := by decide +kernel
theorem dX11_added_7 : decode cX11_added 7 = .ok (.arraylength, 1) := by decide +kernel
theorem dX11_added_8 : decode cX11_added 8 = .ok (.invokestatic 68, 3) := by decide +kernel
theorem dX11_added_11 : decode cX11_added 11 = .ok (.istore 5, 2) := by decide +kernel
theorem dX11_added_13 : decode cX11_added 13 = .ok (.iload_n 1, 1) := by decide +kernel
theorem dX11_added_14 : decode cX11_added 14 = .ok (.iconst 0, 1) := by decide +kernel
theorem dX11_added_15 : decode cX11_added 15 = .ok (.invokestatic 243, 3) := by decide +kernel
theorem dX11_added_18 : decode cX11_added 18 = .ok (.istore 6, 2) := by decide +kernel
theorem dX11_added_20 : decode cX11_added 20 = .ok (.iload 6, 2) := by decide +kernel
theorem dX11_added_22 : decode cX11_added 22 = .ok (.iload 5, 2) := by decide +kernel
theorem dX11_added_24 : decode cX11_added 24 = .ok (.if_icmp .ge 49, 3) := by decide +kernel
theorem dX11_added_27 : decode cX11_added 27 = .ok (.iload 4, 2) := by decide +kernel
theorem dX11_added_29 : decode cX11_added 29 = .ok (.aload_n 0, 1) := by decide +kernel
theorem dX11_added_30 : decode cX11_added 30 = .ok (.iload 6, 2) := by decide +kernel
theorem dX11_added_32 : decode cX11_added 32 = .ok (.baload, 1) := by decide +kernel
theorem dX11_added_33 : decode cX11_added 33 = .ok (.sipush 255, 3) := by decide +kernel
theorem dX11_added_36 : decode cX11_added 36 = .ok (.iand, 1) := by decide +kernel
theorem dX11_added_37 : decode cX11_added 37 = .ok (.bipush 8, 2) := by decide +kernel
theorem dX11_added_39 : decode cX11_added 39 = .ok (.ishl, 1) := by decide +kernel
theorem dX11_added_40 : decode cX11_added 40 = .ok (.iadd, 1) := by decide +kernel
theorem dX11_added_41 : decode cX11_added 41 = .ok (.istore 4, 2) := by decide +kernel
theorem dX11_added_43 : decode cX11_added 43 = .ok (.iload 6, 2) := by decide +kernel
theorem dX11_added_45 : decode cX11_added 45 = .ok (.iconst 1, 1) := by decide +kernel
theorem dX11_added_46 : decode cX11_added 46 = .ok (.iadd, 1) := by decide +kernel
theorem dX11_added_47 : decode cX11_added 47 = .ok (.iload 5, 2) := by decide +kernel
theorem dX11_added_49 : decode cX11_added 49 = .ok (.if_icmp .ge 18, 3) := by decide +kernel
theorem dX11_added_52 : decode cX11_added 52 = .ok (.iload 4, 2) := by decide +kernel
theorem dX11_added_54 : decode cX11_added 54 = .ok (.aload_n 0, 1) := by decide +kernel
theorem dX11_added_55 : decode cX11_added 55 = .ok (.iload 6, 2) := by decide +kernel
theorem dX11_added_57 : decode cX11_added 57 = .ok (.iconst 1, 1) := by decide +kernel
theorem dX11_added_58 : decode cX11_added 58 = .ok (.iadd, 1) := by decide +kernel
theorem dX11_added_59 : decode cX11_added 59 = .ok (.baload, 1) := by decide +kernel
theorem dX11_added_60 : decode cX11_added 60 = .ok (.sipush 255, 3) := by decide +kernel
theorem dX11_added_63 : decode cX11_added 63 = .ok (.iand, 1) := by decide +kernel
theorem dX11_added_64 : decode cX11_added 64 = .ok (.iadd, 1) := by decide +kernel
theorem dX11_added_65 : decode cX11_added 65 = .ok (.istore 4, 2) := by decide +kernel
theorem dX11_added_67 : decode cX11_added 67 = .ok (.iinc 6 2, 3) := by decide +kernel
theorem dX11_added_70 : decode cX11_added 70 = .ok (.goto (-50), 3) := by decide +kernel
theorem dX11_added_73 : decode cX11_added 73 = .ok (.iload 4, 2) := by decide +kernel
theorem dX11_added_75 : decode cX11_added 75 = .ok (.ldc 84, 2) := by decide +kernel
theorem dX11_added_77 : decode cX11_added 77 = .ok (.iand, 1) := by decide +kernel
theorem dX11_added_78 : decode cX11_added 78 = .ok (.iload 4, 2) := by decide +kernel
theorem dX11_added_80 : decode cX11_added 80 = .ok (.bipush 16, 2) := by decide +kernel
theorem dX11_added_82 : decode cX11_added 82 = .ok (.iushr, 1) := by decide +kernel
theorem dX11_added_83 : decode cX11_added 83 = .ok (.iadd, 1) := by decide +kernel
theorem dX11_added_84 : decode cX11_added 84 = .ok (.istore 4, 2) := by decide +kernel
theorem dX11_added_86 : decode cX11_added 86 = .ok (.iload 4, 2) := by decide +kernel
theorem dX11_added_88 : decode cX11_added 88 = .ok (.ldc 84, 2) := by decide +kernel
theorem dX11_added_90 : decode cX11_added 90 = .ok (.iand, 1) := by decide +kernel
theorem dX11_added_91 : decode cX11_added 91 = .ok (.iload 4, 2) := by decide +kernel
theorem dX11_added_93 : decode cX11_added 93 = .ok (.bipush 16, 2) := by decide +kernel
theorem dX11_added_95 : decode cX11_added 95 = .ok (.iushr, 1) := by decide +kernel
theorem dX11_added_96 : decode cX11_added 96 = .ok (.iadd, 1) := by decide +kernel
theorem dX11_added_97 : decode cX11_added 97 = .ok (.ireturn, 1) := by decide +kernel
theorem wX11_added_L67 {x : GX} {n0 sl0 : Nat} (X : Cx x cX11_added RX11 (some .int) n0 sl0 1 13) {out : Int32 × Mm} (hE : Ends x n0 sl0 (some (pI out.1)) out.2) (hn : xn x = 7) (fu : Nat) (k20 : Option Nat → Int32 → Int32 → Int32 → Mm → Option (Int32 × Mm)) (hk20 : ∀ (b0 : Option Nat) (b4 : Int32) (b5 : Int32) (b6 : Int32)  (M : Mm), k20 b0 b4 b5 b6 M = some out → Gw x M 20 [(0, pR b0), (4, pI b4), (5, pI b5), (6, pI b6)] []) (a0 : Option Nat) (a4 : Int32) (a5 : Int32) (a6 : Int32)  (M : Mm) (h : fX11_added_L67 fu k20 a0 a4 a5 a6 M = some out) : Gw x M 67 [(0, pR a0), (4, pI a4), (5, pI a5), (6, pI a6)] [] := by
  unfold fX11_added_L67 at h
  refine g_iinc X (pc := 67) 3 [(6, pI (a6 + (2 : Int32))), (0, pR a0), (4, pI a4), (5, pI a5)] rfl (iinc_e (by decide)) (lt_n hn (by decide)) rfl dX11_added_67 ?_
  refine g_goto X (pc := 70) (tgt := 20) dX11_added_70 (by decide) ?_
  refine g_sub [1, 2, 3, 0] [(0, pR a0), (4, pI a4), (5, pI a5), (6, pI (a6 + (2 : Int32)))] rfl ?_
  exact hk20 a0 a4 a5 (a6 + (2 : Int32)) M h
theorem wX11_added_L20 {x : GX} {n0 sl0 : Nat} (X : Cx x cX11_added RX11 (some .int) n0 sl0 1 13) {out : Int32 × Mm} (hE : Ends x n0 sl0 (some (pI out.1)) out.2) (hn : xn x = 7) (fu : Nat)   : ∀ (n : Nat) (a0 : Option Nat) (a4 : Int32) (a5 : Int32) (a6 : Int32)  (M : Mm), fX11_added_L20 fu  n a0 a4 a5 a6 M = some out → Gw x M 20 [(0, pR a0), (4, pI a4), (5, pI a5), (6, pI a6)] [] := by
  intro n
  induction n with
  | zero =>
    intro a0 a4 a5 a6 M h
    have h : (none : Option (Int32 × Mm)) = some out := h
    cases h
  | succ n ih =>
    intro a0 a4 a5 a6 M h
    rw [fX11_added_L20] at h
    refine g_iload X (pc := 20) 3 rfl dX11_added_20 ?_
    refine g_iload X (pc := 22) 2 rfl dX11_added_22 ?_
    refine g_icmp_ge X (pc := 24) (tgt := 73) dX11_added_24 (by decide) (fun hc => ?_) (fun hc => ?_)
    · have h := (if_pos hc).symm.trans h
      refine g_iload X (pc := 73) 1 rfl dX11_added_73 ?_
      refine g_ldc X (pc := 75) tb_375 dX11_added_75 ?_
      refine g_iand X (pc := 77) dX11_added_77 ?_
      refine g_iload X (pc := 78) 1 rfl dX11_added_78 ?_
      refine g_bipush X (pc := 80) (v := 16) dX11_added_80 (by decide) ?_
      refine g_iushr X (pc := 82) dX11_added_82 ?_
      refine g_iadd X (pc := 83) dX11_added_83 ?_
      obtain ⟨v1, ev1, h⟩ := bd h
      refine g_nmI ev1 ?_
      refine g_istore X (pc := 84) [(4, pI v1), (0, pR a0), (5, pI a5), (6, pI a6)] (lt_n hn (by decide)) rfl dX11_added_84 ?_
      refine g_iload X (pc := 86) 0 rfl dX11_added_86 ?_
      refine g_ldc X (pc := 88) tb_375 dX11_added_88 ?_
      refine g_iand X (pc := 90) dX11_added_90 ?_
      refine g_iload X (pc := 91) 0 rfl dX11_added_91 ?_
      refine g_bipush X (pc := 93) (v := 16) dX11_added_93 (by decide) ?_
      refine g_iushr X (pc := 95) dX11_added_95 ?_
      refine g_iadd X (pc := 96) dX11_added_96 ?_
      obtain rfl := Option.some.inj h
      exact g_ireturn X hE dX11_added_97
    · have h := (if_neg hc).symm.trans h
      refine g_iload X (pc := 27) 1 rfl dX11_added_27 ?_
      refine g_aload_n X (pc := 29) 0 rfl rfl dX11_added_29 ?_
      refine g_iload X (pc := 30) 3 rfl dX11_added_30 ?_
      obtain ⟨v2, ev2, h⟩ := bd h
      refine g_baload X (pc := 32) ev2 dX11_added_32 ?_
      refine g_sipush X (pc := 33) (v := 255) dX11_added_33 (by decide) ?_
      refine g_iand X (pc := 36) dX11_added_36 ?_
      refine g_bipush X (pc := 37) (v := 8) dX11_added_37 (by decide) ?_
      refine g_ishl X (pc := 39) dX11_added_39 ?_
      refine g_iadd X (pc := 40) dX11_added_40 ?_
      obtain ⟨v3, ev3, h⟩ := bd h
      refine g_nmI ev3 ?_
      refine g_istore X (pc := 41) [(4, pI v3), (0, pR a0), (5, pI a5), (6, pI a6)] (lt_n hn (by decide)) rfl dX11_added_41 ?_
      refine g_iload X (pc := 43) 3 rfl dX11_added_43 ?_
      refine g_iconst X (pc := 45) (v := 1) dX11_added_45 (by decide) ?_
      refine g_iadd X (pc := 46) dX11_added_46 ?_
      refine g_iload X (pc := 47) 2 rfl dX11_added_47 ?_
      refine g_icmp_ge X (pc := 49) (tgt := 67) dX11_added_49 (by decide) (fun hc => ?_) (fun hc => ?_)
      · have h := (if_pos hc).symm.trans h
        refine g_sub [1, 0, 2, 3] [(0, pR a0), (4, pI v3), (5, pI a5), (6, pI a6)] rfl ?_
        exact wX11_added_L67 X hE hn fu (fun b0 b4 b5 b6 M => fX11_added_L20 fu  n b0 b4 b5 b6 M) ih a0 v3 a5 a6 M h
      · have h := (if_neg hc).symm.trans h
        refine g_iload X (pc := 52) 0 rfl dX11_added_52 ?_
        refine g_aload_n X (pc := 54) 1 rfl rfl dX11_added_54 ?_
        refine g_iload X (pc := 55) 3 rfl dX11_added_55 ?_
        refine g_iconst X (pc := 57) (v := 1) dX11_added_57 (by decide) ?_
        refine g_iadd X (pc := 58) dX11_added_58 ?_
        obtain ⟨v4, ev4, h⟩ := bd h
        refine g_baload X (pc := 59) ev4 dX11_added_59 ?_
        refine g_sipush X (pc := 60) (v := 255) dX11_added_60 (by decide) ?_
        refine g_iand X (pc := 63) dX11_added_63 ?_
        refine g_iadd X (pc := 64) dX11_added_64 ?_
        refine g_istore X (pc := 65) [(4, pI (v3 + (v4 &&& (255 : Int32)))), (0, pR a0), (5, pI a5), (6, pI a6)] (lt_n hn (by decide)) rfl dX11_added_65 ?_
        refine g_sub [1, 0, 2, 3] [(0, pR a0), (4, pI (v3 + (v4 &&& (255 : Int32)))), (5, pI a5), (6, pI a6)] rfl ?_
        exact wX11_added_L67 X hE hn fu (fun b0 b4 b5 b6 M => fX11_added_L20 fu  n b0 b4 b5 b6 M) ih a0 (v3 + (v4 &&& (255 : Int32))) a5 a6 M h
theorem wX11_added {x : GX} {n0 sl0 : Nat} (X : Cx x cX11_added RX11 (some .int) n0 sl0 1 13) {out : Int32 × Mm} (hE : Ends x n0 sl0 (some (pI out.1)) out.2) (hn : xn x = 7) (fu : Nat)   (a0 : Option Nat) (a1 : Int32) (a2 : Int32) (a3 : Int32)  (M : Mm) (h : fX11_added fu  a0 a1 a2 a3 M = some out) : Gw x M 0 [(0, pR a0), (1, pI a1), (2, pI a2), (3, pI a3)] [] := by
  unfold fX11_added at h
  refine g_iload_n X (pc := 0) 3 rfl rfl dX11_added_0 ?_
  refine g_istore X (pc := 1) [(4, pI a3), (0, pR a0), (1, pI a1), (2, pI a2), (3, pI a3)] (lt_n hn (by decide)) rfl dX11_added_1 ?_
  refine g_iload_n X (pc := 3) 2 rfl rfl dX11_added_3 ?_
  refine g_iload_n X (pc := 4) 3 rfl rfl dX11_added_4 ?_
  refine g_iadd X (pc := 5) dX11_added_5 ?_
  refine g_aload_n X (pc := 6) 1 rfl rfl dX11_added_6 ?_
  obtain ⟨v1, ev1, h⟩ := bd h
  refine g_alen X (pc := 7) (k := 0) rfl (by decide) ev1 dX11_added_7 ?_
  refine g_mmin X (pc := 8) tb_347 tb_348 tb_13 tb_349 ⟨by decide, Nat.le_of_ble_eq_true rfl⟩ dX11_added_8 ?_
  refine g_istore X (pc := 11) [(5, pI (jmin (a1 + a2) v1)), (4, pI a3), (0, pR a0), (1, pI a1), (2, pI a2), (3, pI a3)] (lt_n hn (by decide)) rfl dX11_added_11 ?_
  refine g_iload_n X (pc := 13) 3 rfl rfl dX11_added_13 ?_
  refine g_iconst X (pc := 14) (v := 0) dX11_added_14 (by decide) ?_
  refine g_mmax X (pc := 15) tb_623 tb_405 tb_13 tb_406 ⟨by decide, Nat.le_of_ble_eq_true rfl⟩ dX11_added_15 ?_
  refine g_istore X (pc := 18) [(6, pI (jmax a1 (0 : Int32))), (5, pI (jmin (a1 + a2) v1)), (4, pI a3), (0, pR a0), (1, pI a1), (2, pI a2), (3, pI a3)] (lt_n hn (by decide)) rfl dX11_added_18 ?_
  refine g_sub [3, 2, 1, 0] [(0, pR a0), (4, pI a3), (5, pI (jmin (a1 + a2) v1)), (6, pI (jmax a1 (0 : Int32)))] rfl ?_
  exact wX11_added_L20 X hE hn fu   fu a0 a3 (jmin (a1 + a2) v1) (jmax a1 (0 : Int32)) M h
theorem hyX11_added : yX11_added.cls ≠ "java/lang/invoke/MethodHandle" ∧ yX11_added.cls ≠ "java/lang/invoke/VarHandle" ∧ (parseMethodDescriptor yX11_added.desc).map (fun d => d.parameters.length) = some 4 := ⟨by decide +kernel, by decide +kernel, by decide +kernel⟩
theorem ctX11_added (l : Launch) (E : Nat → Nat) (D : va_G) (dA : Nat → ClassId) (lo : Nat) (H0 : Heap) (fu : Nat) (a0 : Option Nat) (a1 : Int32) (a2 : Int32) (a3 : Int32) (M : Mm) (out : Int32 × Mm) (h : fX11_added fu a0 a1 a2 a3 M = some out) : Ct l E D dA lo H0 yX11_added cX11_added 7 (some .int) 1 13 [pR a0, pI a1, pI a2, pI a3] M (some (pI out.1)) out.2 := by
  refine ct_of (by decide +kernel) (Nat.le_of_ble_eq_true rfl) ?_
  intro x hl he hd ha ho hh hn hin X hE
  exact wX11_added X hE hn fu a0 a1 a2 a3 M h
