/-! ===== walks of methods, printed by a program of ours ===== -/
/-! WebHostModel.takesData(LWebHostModel$Connection;)Z -/
def fX16_takesData (fu : Nat)  (a0 : Option Nat)  (M : Mm) : Option (Int32 × Mm) :=
    (gI M 12 768 a0).bind fun v1 =>
    if v1 = (2 : Int32) then (
    rN .boolean (1 : Int32) M)
    else (
    (gI M 12 768 a0).bind fun v2 =>
    if v2 = (3 : Int32) then (
    rN .boolean (1 : Int32) M)
    else (
    (gI M 12 768 a0).bind fun v3 =>
    if v3 = (4 : Int32) then (
    rN .boolean (1 : Int32) M)
    else (
    rN .boolean (0 : Int32) M)))
theorem dX16_takesData_0 : decode cX16_takesData 0 = .ok (.aload_n 0, 1) := by decide +kernel
theorem dX16_takesData_1 : decode cX16_takesData 1 = .ok (.getfield 152, 3) := by decide +kernel
theorem dX16_takesData_4 : decode cX16_takesData 4 = .ok (.iconst 2, 1) := by decide +kernel
theorem dX16_takesData_5 : decode cX16_takesData 5 = .ok (.if_icmp .eq 19, 3) := by decide +kernel
theorem dX16_takesData_8 : decode cX16_takesData 8 = .ok (.aload_n 0, 1) := by decide +kernel
theorem dX16_takesData_9 : decode cX16_takesData 9 = .ok (.getfield 152, 3) := by decide +kernel
theorem dX16_takesData_12 : decode cX16_takesData 12 = .ok (.iconst 3, 1) := by decide +kernel
theorem dX16_takesData_13 : decode cX16_takesData 13 = .ok (.if_icmp .eq 11, 3) := by decide +kernel
theorem dX16_takesData_16 : decode cX16_takesData 16 = .ok (.aload_n 0, 1) := by decide +kernel
theorem dX16_takesData_17 : decode cX16_takesData 17 = .ok (.getfield 152, 3) := by decide +kernel
theorem dX16_takesData_20 : decode cX16_takesData 20 = .ok (.iconst 4, 1) := by decide +kernel
theorem dX16_takesData_21 : decode cX16_takesData 21 = .ok (.if_icmp .ne 7, 3) := by decide +kernel
theorem dX16_takesData_24 : decode cX16_takesData 24 = .ok (.iconst 1, 1) := by decide +kernel
theorem dX16_takesData_25 : decode cX16_takesData 25 = .ok (.goto 4, 3) := by decide +kernel
theorem dX16_takesData_28 : decode cX16_takesData 28 = .ok (.iconst 0, 1) := by decide +kernel
theorem dX16_takesData_29 : decode cX16_takesData 29 = .ok (.ireturn, 1) := by decide +kernel
theorem wX16_takesData {x : GX} {n0 sl0 : Nat} (X : Cx x cX16_takesData RX16 (some .boolean) n0 sl0 0 0) {out : Int32 × Mm} (hE : Ends x n0 sl0 (some (pI out.1)) out.2) (hn : xn x = 1) (fu : Nat)   (a0 : Option Nat)  (M : Mm) (h : fX16_takesData fu  a0 M = some out) : Gw x M 0 [(0, pR a0)] [] := by
  unfold fX16_takesData at h
  refine g_aload_n X (pc := 0) 0 rfl rfl dX16_takesData_0 ?_
  obtain ⟨v1, ev1, h⟩ := bd h
  refine g_getI X (pc := 1) fk_12_0 rfl rfl ev1 tb_1580 dX16_takesData_1 ?_
  refine g_iconst X (pc := 4) (v := 2) dX16_takesData_4 (by decide) ?_
  refine g_icmp_eq X (pc := 5) (tgt := 24) dX16_takesData_5 (by decide) (fun hc => ?_) (fun hc => ?_)
  · have h := (if_pos hc).symm.trans h
    refine g_iconst X (pc := 24) (v := 1) dX16_takesData_24 (by decide) ?_
    refine g_goto X (pc := 25) (tgt := 29) dX16_takesData_25 (by decide) ?_
    obtain ⟨hz, rfl⟩ := rN_some h
    exact g_nreturn X rfl hz hE dX16_takesData_29
  · have h := (if_neg hc).symm.trans h
    refine g_aload_n X (pc := 8) 0 rfl rfl dX16_takesData_8 ?_
    obtain ⟨v2, ev2, h⟩ := bd h
    refine g_getI X (pc := 9) fk_12_0 rfl rfl ev2 tb_1580 dX16_takesData_9 ?_
    refine g_iconst X (pc := 12) (v := 3) dX16_takesData_12 (by decide) ?_
    refine g_icmp_eq X (pc := 13) (tgt := 24) dX16_takesData_13 (by decide) (fun hc => ?_) (fun hc => ?_)
    · have h := (if_pos hc).symm.trans h
      refine g_iconst X (pc := 24) (v := 1) dX16_takesData_24 (by decide) ?_
      refine g_goto X (pc := 25) (tgt := 29) dX16_takesData_25 (by decide) ?_
      obtain ⟨hz, rfl⟩ := rN_some h
      exact g_nreturn X rfl hz hE dX16_takesData_29
    · have h := (if_neg hc).symm.trans h
      refine g_aload_n X (pc := 16) 0 rfl rfl dX16_takesData_16 ?_
      obtain ⟨v3, ev3, h⟩ := bd h
      refine g_getI X (pc := 17) fk_12_0 rfl rfl ev3 tb_1580 dX16_takesData_17 ?_
      refine g_iconst X (pc := 20) (v := 4) dX16_takesData_20 (by decide) ?_
      refine g_icmp_ne X (pc := 21) (tgt := 28) dX16_takesData_21 (by decide) (fun hc => ?_) (fun hc => ?_)
      · have h := (if_neg hc).symm.trans h
        refine g_iconst X (pc := 28) (v := 0) dX16_takesData_28 (by decide) ?_
        obtain ⟨hz, rfl⟩ := rN_some h
        exact g_nreturn X rfl hz hE dX16_takesData_29
      · have h := (if_pos hc).symm.trans h
        refine g_iconst X (pc := 24) (v := 1) dX16_takesData_24 (by decide) ?_
        refine g_goto X (pc := 25) (tgt := 29) dX16_takesData_25 (by decide) ?_
        obtain ⟨hz, rfl⟩ := rN_some h
        exact g_nreturn X rfl hz hE dX16_takesData_29
theorem hyX16_takesData : yX16_takesData.cls ≠ "java/lang/invoke/MethodHandle" ∧ yX16_takesData.cls ≠ "java/lang/invoke/VarHandle" ∧ (parseMethodDescriptor yX16_takesData.desc).map (fun d => d.parameters.length) = some 1 := ⟨by decide +kernel, by decide +kernel, by decide +kernel⟩
theorem ctX16_takesData (l : Launch) (E : Nat → Nat) (D : va_G) (dA : Nat → ClassId) (lo : Nat) (H0 : Heap) (fu : Nat) (a0 : Option Nat) (M : Mm) (out : Int32 × Mm) (h : fX16_takesData fu a0 M = some out) : Ct l E D dA lo H0 yX16_takesData cX16_takesData 1 (some .boolean) 0 0 [pR a0] M (some (pI out.1)) out.2 := by
  refine ct_of (by decide +kernel) (Nat.le_of_ble_eq_true rfl) ?_
  intro x hl he hd ha ho hh hn hin X hE
  exact wX16_takesData X hE hn fu a0 M h
/-! WebHostModel.arrived(LWebHostModel$Connection;)V -/
def fX16_arrived_L323 (fu : Nat)  (a0 : Nat) (a1 : Option Nat) (s0 : Option Nat) (s1 : Int32) (M : Mm) : Option (Mm) :=
    (pF M 12 768 s0 s1).bind fun M1 =>
    (gI M1 16 1034 (some a0)).bind fun v2 =>
    (pF M1 12 813 a1 v2).bind fun M3 =>
    some M3
def fX16_arrived_L246 (fu : Nat)  (a0 : Nat) (a1 : Option Nat)  (M : Mm) : Option (Mm) :=
    (gI M 12 808 a1).bind fun v1 =>
    if v1 = 0 then (
    some M)
    else (
    (gI M 12 809 a1).bind fun v2 =>
    if v2 = 0 then (
    (gI M 12 804 a1).bind fun v3 =>
    (gI M 12 810 a1).bind fun v4 =>
    if v3 = v4 then (
    (pZ M 12 809 a1 (1 : Int32)).bind fun M5 =>
    (gI M5 12 804 a1).bind fun v6 =>
    (pF M5 12 804 a1 (v6 + (1 : Int32))).bind fun M7 =>
    (pZ M7 12 807 a1 (1 : Int32)).bind fun M8 =>
    (gI M8 12 768 a1).bind fun v9 =>
    if v9 = (2 : Int32) then (
    (pF M8 12 768 a1 (7 : Int32)).bind fun M11 =>
    some M11)
    else (
    (gI M8 12 768 a1).bind fun v10 =>
    if v10 = (3 : Int32) then (
    fX16_arrived_L323 fu  a0 a1 a1 (5 : Int32) M8)
    else (
    fX16_arrived_L323 fu  a0 a1 a1 (6 : Int32) M8)))
    else (
    some M))
    else (
    some M))
def fX16_arrived_L233 (fu : Nat)  (a0 : Nat) (a1 : Option Nat)  (M : Mm) : Option (Mm) :=
    (rc M 16 (some a0)).bind fun q1 =>
    b2 (fX16_is fu q1 (1 : Int32) M) fun v3 M2 =>
    if v3 = 0 then (
    fX16_arrived_L246 fu  a0 a1 M2)
    else (
    (pZ M2 12 807 a1 (1 : Int32)).bind fun M4 =>
    fX16_arrived_L246 fu  a0 a1 M4)
def fX16_arrived_L176 (fu : Nat)  (a0 : Nat) (a1 : Option Nat) (a2 : Int32) (a3 : Int32)  (M : Mm) : Option (Mm) :=
    (rc M 16 (some a0)).bind fun q1 =>
    b2 (fX16_is fu q1 (1 : Int32) M) fun v3 M2 =>
    if v3 = 0 then (
    fX16_arrived_L233 fu  a0 a1 M2)
    else (
    (gI M2 12 808 a1).bind fun v4 =>
    if v4 = 0 then (
    (gI M2 16 1058 (some a0)).bind fun v5 =>
    (gI M2 16 1063 (some a0)).bind fun v6 =>
    b2 (fX16_before fu  (v5 + v6) a3 M2) fun v8 M7 =>
    if v8 = 0 then (
    b2 (fX16_before fu  (v5 + v6) (a3 + a2) M7) fun v10 M9 =>
    if v10 = 0 then (
    fX16_arrived_L233 fu  a0 a1 M9)
    else (
    (pZ M9 12 808 a1 (1 : Int32)).bind fun M11 =>
    (pF M11 12 810 a1 (v5 + v6)).bind fun M12 =>
    fX16_arrived_L233 fu  a0 a1 M12))
    else (
    fX16_arrived_L233 fu  a0 a1 M7))
    else (
    fX16_arrived_L233 fu  a0 a1 M2))
def fX16_arrived_L131 (fu : Nat)  : Nat → Nat → Option Nat → Int32 → Int32 → Mm → Option (Mm)
  | 0, _, _, _, _, _ => none
  | n + 1, a0, a1, a2, a3, M =>
    (gI M 12 804 a1).bind fun v1 =>
    (gI M 12 803 a1).bind fun v2 =>
    if (4096 : Int32) ≤ (v1 - v2) then (
    fX16_arrived_L176 fu  a0 a1 a2 a3 M)
    else (
    (gR M 12 801 a1).bind fun v3 =>
    (gI M 12 804 a1).bind fun v4 =>
    (gI M 12 803 a1).bind fun v5 =>
    (gA M 102 v3 (v4 - v5)).bind fun v6 =>
    if v6 = 0 then (
    fX16_arrived_L176 fu  a0 a1 a2 a3 M)
    else (
    (gI M 12 804 a1).bind fun v7 =>
    (pF M 12 804 a1 (v7 + (1 : Int32))).bind fun M8 =>
    fX16_arrived_L131 fu  n a0 a1 a2 a3 M8))
def fX16_arrived_L125 (fu : Nat) (k41 : Nat → Option Nat → Int32 → Int32 → Int32 → Mm → Option (Mm)) (a0 : Nat) (a1 : Option Nat) (a2 : Int32) (a3 : Int32) (a4 : Int32)  (M : Mm) : Option (Mm) :=
    k41 a0 a1 a2 a3 (a4 + (1 : Int32)) M
def fX16_arrived_L41 (fu : Nat)  : Nat → Nat → Option Nat → Int32 → Int32 → Int32 → Mm → Option (Mm)
  | 0, _, _, _, _, _, _ => none
  | n + 1, a0, a1, a2, a3, a4, M =>
    (gI M 16 1063 (some a0)).bind fun v1 =>
    if v1 ≤ a4 then (
    fX16_arrived_L131 fu  fu a0 a1 a2 a3 M)
    else (
    (gI M 16 1058 (some a0)).bind fun v2 =>
    b2 (fX16_before fu  (v2 + a4) a3 M) fun v4 M3 =>
    if v4 = 0 then (
    b2 (fX16_before fu  (v2 + a4) (a3 + a2) M3) fun v6 M5 =>
    if v6 = 0 then (
    fX16_arrived_L125 fu (fun b0 b1 b2 b3 b4 M => fX16_arrived_L41 fu  n b0 b1 b2 b3 b4 M) a0 a1 a2 a3 a4 M5)
    else (
    (gI M5 12 803 a1).bind fun v7 =>
    (gR M5 12 801 a1).bind fun v8 =>
    (gA M5 102 v8 ((v2 + a4) - v7)).bind fun v9 =>
    if v9 = 0 then (
    (gR M5 12 801 a1).bind fun v10 =>
    (pA M5 102 v10 ((v2 + a4) - v7) ((1 : Int32) &&& 1)).bind fun M11 =>
    (gR M11 12 800 a1).bind fun v12 =>
    (gR M11 16 1053 (some a0)).bind fun v13 =>
    (gI M11 16 1062 (some a0)).bind fun v14 =>
    (gA M11 100 v13 (v14 + a4)).bind fun v15 =>
    (pA M11 100 v12 ((v2 + a4) - v7) (Int8.toInt32 (Int32.toInt8 v15))).bind fun M16 =>
    fX16_arrived_L125 fu (fun b0 b1 b2 b3 b4 M => fX16_arrived_L41 fu  n b0 b1 b2 b3 b4 M) a0 a1 a2 a3 a4 M16)
    else (
    fX16_arrived_L125 fu (fun b0 b1 b2 b3 b4 M => fX16_arrived_L41 fu  n b0 b1 b2 b3 b4 M) a0 a1 a2 a3 a4 M5)))
    else (
    fX16_arrived_L125 fu (fun b0 b1 b2 b3 b4 M => fX16_arrived_L41 fu  n b0 b1 b2 b3 b4 M) a0 a1 a2 a3 a4 M3))
def fX16_arrived_L38 (fu : Nat)  (a0 : Nat) (a1 : Option Nat) (a2 : Int32) (a3 : Int32)  (M : Mm) : Option (Mm) :=
    fX16_arrived_L41 fu  fu a0 a1 a2 a3 (0 : Int32) M
def fX16_arrived (fu : Nat)  (a0 : Nat) (a1 : Option Nat)  (M : Mm) : Option (Mm) :=
    b2 (fX16_takesData fu  a1 M) fun v2 M1 =>
    if v2 = 0 then (
    some M1)
    else (
    (rc M1 12 a1).bind fun q3 =>
    b2 (fX12_open fu q3  M1) fun v5 M4 =>
    (gI M4 12 804 a1).bind fun v6 =>
    (gI M4 16 1063 (some a0)).bind fun v7 =>
    if v7 ≤ 0 then (
    fX16_arrived_L38 fu  a0 a1 v5 v6 M4)
    else (
    (pZ M4 12 807 a1 (1 : Int32)).bind fun M8 =>
    (gI M8 16 1034 (some a0)).bind fun v9 =>
    (pF M8 12 812 a1 v9).bind fun M10 =>
    fX16_arrived_L38 fu  a0 a1 v5 v6 M10))
theorem dX16_arrived_0 : decode cX16_arrived 0 = .ok (.aload_n 1, 1) := by decide +kernel
theorem dX16_arrived_1 : decode cX16_arrived 1 = .ok (.invokestatic 557, 3) := by decide +kernel
theorem dX16_arrived_4 : decode cX16_arrived 4 = .ok (.ifCond .ne 4, 3) := by decide +kernel
theorem dX16_arrived_7 : decode cX16_arrived 7 = .ok (.return_, 1) := by decide +kernel
theorem dX16_arrived_8 : decode cX16_arrived 8 = .ok (.aload_n 1, 1) := by decide +kernel
theorem dX16_arrived_9 : decode cX16_arrived 9 = .ok (.invokevirtual 339, 3) := by decide +kernel
theorem dX16_arrived_12 : decode cX16_arrived 12 = .ok (.istore_n 2, 1) := by decide +kernel
theorem dX16_arrived_13 : decode cX16_arrived 13 = .ok (.aload_n 1, 1) := by decide +kernel
theorem dX16_arrived_14 : decode cX16_arrived 14 = .ok (.getfield 348, 3) := by decide +kernel
theorem dX16_arrived_17 : decode cX16_arrived 17 = .ok (.istore_n 3, 1) := by decide +kernel
theorem dX16_arrived_18 : decode cX16_arrived 18 = .ok (.aload_n 0, 1) := by decide +kernel
theorem dX16_arrived_19 : decode cX16_arrived 19 = .ok (.getfield 311, 3) := by decide +kernel
theorem dX16_arrived_22 : decode cX16_arrived 22 = .ok (.ifCond .le 16, 3) := by decide +kernel
theorem dX16_arrived_25 : decode cX16_arrived 25 = .ok (.aload_n 1, 1) := by decide +kernel
theorem dX16_arrived_26 : decode cX16_arrived 26 = .ok (.iconst 1, 1) := by decide +kernel
theorem dX16_arrived_27 : decode cX16_arrived 27 = .ok (.putfield 336, 3) := by decide +kernel
theorem dX16_arrived_30 : decode cX16_arrived 30 = .ok (.aload_n 1, 1) := by decide +kernel
theorem dX16_arrived_31 : decode cX16_arrived 31 = .ok (.aload_n 0, 1) := by decide +kernel
theorem dX16_arrived_32 : decode cX16_arrived 32 = .ok (.getfield 134, 3) := by decide +kernel
theorem dX16_arrived_35 : decode cX16_arrived 35 = .ok (.putfield 523, 3) := by decide +kernel
theorem dX16_arrived_38 : decode cX16_arrived 38 = .ok (.iconst 0, 1) := by decide +kernel
theorem dX16_arrived_39 : decode cX16_arrived 39 = .ok (.istore 4, 2) := by decide +kernel
theorem dX16_arrived_41 : decode cX16_arrived 41 = .ok (.iload 4, 2) := by decide +kernel
theorem dX16_arrived_43 : decode cX16_arrived 43 = .ok (.aload_n 0, 1) := by decide +kernel
theorem dX16_arrived_44 : decode cX16_arrived 44 = .ok (.getfield 311, 3) := by decide +kernel
theorem dX16_arrived_47 : decode cX16_arrived 47 = .ok (.if_icmp .ge 84, 3) := by decide +kernel
theorem dX16_arrived_50 : decode cX16_arrived 50 = .ok (.aload_n 0, 1) := by decide +kernel
theorem dX16_arrived_51 : decode cX16_arrived 51 = .ok (.getfield 298, 3) := by decide +kernel
theorem dX16_arrived_54 : decode cX16_arrived 54 = .ok (.iload 4, 2) := by decide +kernel
theorem dX16_arrived_56 : decode cX16_arrived 56 = .ok (.iadd, 1) := by decide +kernel
theorem dX16_arrived_57 : decode cX16_arrived 57 = .ok (.istore 5, 2) := by decide +kernel
theorem dX16_arrived_59 : decode cX16_arrived 59 = .ok (.iload 5, 2) := by decide +kernel
theorem dX16_arrived_61 : decode cX16_arrived 61 = .ok (.iload_n 3, 1) := by decide +kernel
theorem dX16_arrived_62 : decode cX16_arrived 62 = .ok (.invokestatic 363, 3) := by decide +kernel
theorem dX16_arrived_65 : decode cX16_arrived 65 = .ok (.ifCond .ne 60, 3) := by decide +kernel
theorem dX16_arrived_68 : decode cX16_arrived 68 = .ok (.iload 5, 2) := by decide +kernel
theorem dX16_arrived_70 : decode cX16_arrived 70 = .ok (.iload_n 3, 1) := by decide +kernel
theorem dX16_arrived_71 : decode cX16_arrived 71 = .ok (.iload_n 2, 1) := by decide +kernel
theorem dX16_arrived_72 : decode cX16_arrived 72 = .ok (.iadd, 1) := by decide +kernel
theorem dX16_arrived_73 : decode cX16_arrived 73 = .ok (.invokestatic 363, 3) := by decide +kernel
theorem dX16_arrived_76 : decode cX16_arrived 76 = .ok (.ifCond .eq 49, 3) := by decide +kernel
theorem dX16_arrived_79 : decode cX16_arrived 79 = .ok (.iload 5, 2) := by decide +kernel
theorem dX16_arrived_81 : decode cX16_arrived 81 = .ok (.aload_n 1, 1) := by decide +kernel
theorem dX16_arrived_82 : decode cX16_arrived 82 = .ok (.getfield 444, 3) := by decide +kernel
theorem dX16_arrived_85 : decode cX16_arrived 85 = .ok (.isub, 1) := by decide +kernel
theorem dX16_arrived_86 : decode cX16_arrived 86 = .ok (.istore 6, 2) := by decide +kernel
theorem dX16_arrived_88 : decode cX16_arrived 88 = .ok (.aload_n 1, 1) := by decide +kernel
theorem dX16_arrived_89 : decode cX16_arrived 89 = .ok (.getfield 484, 3) := by decide +kernel
theorem dX16_arrived_92 : decode cX16_arrived 92 = .ok (.iload 6, 2) := by decide +kernel
theorem dX16_arrived_94 : decode cX16_arrived 94 = .ok (.baload, 1) := by decide +kernel
theorem dX16_arrived_95 : decode cX16_arrived 95 = .ok (.ifCond .ne 30, 3) := by decide +kernel
theorem dX16_arrived_98 : decode cX16_arrived 98 = .ok (.aload_n 1, 1) := by decide +kernel
theorem dX16_arrived_99 : decode cX16_arrived 99 = .ok (.getfield 484, 3) := by decide +kernel
theorem dX16_arrived_102 : decode cX16_arrived 102 = .ok (.iload 6, 2) := by decide +kernel
theorem dX16_arrived_104 : decode cX16_arrived 104 = .ok (.iconst 1, 1) := by decide +kernel
theorem dX16_arrived_105 : decode cX16_arrived 105 = .ok (.bastore, 1) := by decide +kernel
theorem dX16_arrived_106 : decode cX16_arrived 106 = .ok (.aload_n 1, 1) := by decide +kernel
theorem dX16_arrived_107 : decode cX16_arrived 107 = .ok (.getfield 560, 3) := by decide +kernel
theorem dX16_arrived_110 : decode cX16_arrived 110 = .ok (.iload 6, 2) := by decide +kernel
theorem dX16_arrived_112 : decode cX16_arrived 112 = .ok (.aload_n 0, 1) := by decide +kernel
theorem dX16_arrived_113 : decode cX16_arrived 113 = .ok (.getfield 65, 3) := by decide +kernel
theorem dX16_arrived_116 : decode cX16_arrived 116 = .ok (.aload_n 0, 1) := by decide +kernel
theorem dX16_arrived_117 : decode cX16_arrived 117 = .ok (.getfield 308, 3) := by decide +kernel
theorem dX16_arrived_120 : decode cX16_arrived 120 = .ok (.iload 4, 2) := by decide +kernel
theorem dX16_arrived_122 : decode cX16_arrived 122 = .ok (.iadd, 1) := by decide +kernel
theorem dX16_arrived_123 : decode cX16_arrived 123 = .ok (.baload, 1) := by decide +kernel
theorem dX16_arrived_124 : decode cX16_arrived 124 = .ok (.bastore, 1) := by decide +kernel
theorem dX16_arrived_125 : decode cX16_arrived 125 = .ok (.iinc 4 1, 3) := by decide +kernel
theorem dX16_arrived_128 : decode cX16_arrived 128 = .ok (.goto (-87), 3) := by decide +kernel
theorem dX16_arrived_131 : decode cX16_arrived 131 = .ok (.aload_n 1, 1) := by decide +kernel
theorem dX16_arrived_132 : decode cX16_arrived 132 = .ok (.getfield 348, 3) := by decide +kernel
theorem dX16_arrived_135 : decode cX16_arrived 135 = .ok (.aload_n 1, 1) := by decide +kernel
theorem dX16_arrived_136 : decode cX16_arrived 136 = .ok (.getfield 444, 3) := by decide +kernel
theorem dX16_arrived_139 : decode cX16_arrived 139 = .ok (.isub, 1) := by decide +kernel
theorem dX16_arrived_140 : decode cX16_arrived 140 = .ok (.sipush 4096, 3) := by decide +kernel
theorem dX16_arrived_143 : decode cX16_arrived 143 = .ok (.if_icmp .ge 33, 3) := by decide +kernel
theorem dX16_arrived_146 : decode cX16_arrived 146 = .ok (.aload_n 1, 1) := by decide +kernel
theorem dX16_arrived_147 : decode cX16_arrived 147 = .ok (.getfield 484, 3) := by decide +kernel
theorem dX16_arrived_150 : decode cX16_arrived 150 = .ok (.aload_n 1, 1) := by decide +kernel
theorem dX16_arrived_151 : decode cX16_arrived 151 = .ok (.getfield 348, 3) := by decide +kernel
theorem dX16_arrived_154 : decode cX16_arrived 154 = .ok (.aload_n 1, 1) := by decide +kernel
theorem dX16_arrived_155 : decode cX16_arrived 155 = .ok (.getfield 444, 3) := by decide +kernel
theorem dX16_arrived_158 : decode cX16_arrived 158 = .ok (.isub, 1) := by decide +kernel
theorem dX16_arrived_159 : decode cX16_arrived 159 = .ok (.baload, 1) := by decide +kernel
theorem dX16_arrived_160 : decode cX16_arrived 160 = .ok (.ifCond .eq 16, 3) := by decide +kernel
theorem dX16_arrived_163 : decode cX16_arrived 163 = .ok (.aload_n 1, 1) := by decide +kernel
theorem dX16_arrived_164 : decode cX16_arrived 164 = .ok (.dup, 1) := by decide +kernel
theorem dX16_arrived_165 : decode cX16_arrived 165 = .ok (.getfield 348, 3) := by decide +kernel
theorem dX16_arrived_168 : decode cX16_arrived 168 = .ok (.iconst 1, 1) := by decide +kernel
theorem dX16_arrived_169 : decode cX16_arrived 169 = .ok (.iadd, 1) := by decide +kernel
theorem dX16_arrived_170 : decode cX16_arrived 170 = .ok (.putfield 348, 3) := by decide +kernel
theorem dX16_arrived_173 : decode cX16_arrived 173 = .ok (.goto (-42), 3) := by decide +kernel
theorem dX16_arrived_176 : decode cX16_arrived 176 = .ok (.aload_n 0, 1) := by decide +kernel
theorem dX16_arrived_177 : decode cX16_arrived 177 = .ok (.iconst 1, 1) := by decide +kernel
theorem dX16_arrived_178 : decode cX16_arrived 178 = .ok (.invokevirtual 325, 3) := by decide +kernel
theorem dX16_arrived_181 : decode cX16_arrived 181 = .ok (.ifCond .eq 52, 3) := by decide +kernel
theorem dX16_arrived_184 : decode cX16_arrived 184 = .ok (.aload_n 1, 1) := by decide +kernel
theorem dX16_arrived_185 : decode cX16_arrived 185 = .ok (.getfield 478, 3) := by decide +kernel
theorem dX16_arrived_188 : decode cX16_arrived 188 = .ok (.ifCond .ne 45, 3) := by decide +kernel
theorem dX16_arrived_191 : decode cX16_arrived 191 = .ok (.aload_n 0, 1) := by decide +kernel
theorem dX16_arrived_192 : decode cX16_arrived 192 = .ok (.getfield 298, 3) := by decide +kernel
theorem dX16_arrived_195 : decode cX16_arrived 195 = .ok (.aload_n 0, 1) := by decide +kernel
theorem dX16_arrived_196 : decode cX16_arrived 196 = .ok (.getfield 311, 3) := by decide +kernel
theorem dX16_arrived_199 : decode cX16_arrived 199 = .ok (.iadd, 1) := by decide +kernel
theorem dX16_arrived_200 : decode cX16_arrived 200 = .ok (.istore 4, 2) := by decide +kernel
theorem dX16_arrived_202 : decode cX16_arrived 202 = .ok (.iload 4, 2) := by decide +kernel
theorem dX16_arrived_204 : decode cX16_arrived 204 = .ok (.iload_n 3, 1) := by decide +kernel
theorem dX16_arrived_205 : decode cX16_arrived 205 = .ok (.invokestatic 363, 3) := by decide +kernel
theorem dX16_arrived_208 : decode cX16_arrived 208 = .ok (.ifCond .ne 25, 3) := by decide +kernel
theorem dX16_arrived_211 : decode cX16_arrived 211 = .ok (.iload 4, 2) := by decide +kernel
theorem dX16_arrived_213 : decode cX16_arrived 213 = .ok (.iload_n 3, 1) := by decide +kernel
theorem dX16_arrived_214 : decode cX16_arrived 214 = .ok (.iload_n 2, 1) := by decide +kernel
theorem dX16_arrived_215 : decode cX16_arrived 215 = .ok (.iadd, 1) := by decide +kernel
theorem dX16_arrived_216 : decode cX16_arrived 216 = .ok (.invokestatic 363, 3) := by decide +kernel
theorem dX16_arrived_219 : decode cX16_arrived 219 = .ok (.ifCond .eq 14, 3) := by decide +kernel
theorem dX16_arrived_222 : decode cX16_arrived 222 = .ok (.aload_n 1, 1) := by decide +kernel
theorem dX16_arrived_223 : decode cX16_arrived 223 = .ok (.iconst 1, 1) := by decide +kernel
theorem dX16_arrived_224 : decode cX16_arrived 224 = .ok (.putfield 478, 3) := by decide +kernel
theorem dX16_arrived_227 : decode cX16_arrived 227 = .ok (.aload_n 1, 1) := by decide +kernel
theorem dX16_arrived_228 : decode cX16_arrived 228 = .ok (.iload 4, 2) := by decide +kernel
theorem dX16_arrived_230 : decode cX16_arrived 230 = .ok (.putfield 563, 3) := by decide +kernel
theorem dX16_arrived_233 : decode cX16_arrived 233 = .ok (.aload_n 0, 1) := by decide +kernel
theorem dX16_arrived_234 : decode cX16_arrived 234 = .ok (.iconst 1, 1) := by decide +kernel
theorem dX16_arrived_235 : decode cX16_arrived 235 = .ok (.invokevirtual 325, 3) := by decide +kernel
theorem dX16_arrived_238 : decode cX16_arrived 238 = .ok (.ifCond .eq 8, 3) := by decide +kernel
theorem dX16_arrived_241 : decode cX16_arrived 241 = .ok (.aload_n 1, 1) := by decide +kernel
theorem dX16_arrived_242 : decode cX16_arrived 242 = .ok (.iconst 1, 1) := by decide +kernel
theorem dX16_arrived_243 : decode cX16_arrived 243 = .ok (.putfield 336, 3) := by decide +kernel
theorem dX16_arrived_246 : decode cX16_arrived 246 = .ok (.aload_n 1, 1) := by decide +kernel
theorem dX16_arrived_247 : decode cX16_arrived 247 = .ok (.getfield 478, 3) := by decide +kernel
theorem dX16_arrived_250 : decode cX16_arrived 250 = .ok (.ifCond .eq 84, 3) := by decide +kernel
theorem dX16_arrived_253 : decode cX16_arrived 253 = .ok (.aload_n 1, 1) := by decide +kernel
theorem dX16_arrived_254 : decode cX16_arrived 254 = .ok (.getfield 481, 3) := by decide +kernel
theorem dX16_arrived_257 : decode cX16_arrived 257 = .ok (.ifCond .ne 77, 3) := by decide +kernel
theorem dX16_arrived_260 : decode cX16_arrived 260 = .ok (.aload_n 1, 1) := by decide +kernel
theorem dX16_arrived_261 : decode cX16_arrived 261 = .ok (.getfield 348, 3) := by decide +kernel
theorem dX16_arrived_264 : decode cX16_arrived 264 = .ok (.aload_n 1, 1) := by decide +kernel
theorem dX16_arrived_265 : decode cX16_arrived 265 = .ok (.getfield 563, 3) := by decide +kernel
theorem dX16_arrived_268 : decode cX16_arrived 268 = .ok (.if_icmp .ne 66, 3) := by decide +kernel
theorem dX16_arrived_271 : decode cX16_arrived 271 = .ok (.aload_n 1, 1) := by decide +kernel
theorem dX16_arrived_272 : decode cX16_arrived 272 = .ok (.iconst 1, 1) := by decide +kernel
theorem dX16_arrived_273 : decode cX16_arrived 273 = .ok (.putfield 481, 3) := by decide +kernel
theorem dX16_arrived_276 : decode cX16_arrived 276 = .ok (.aload_n 1, 1) := by decide +kernel
theorem dX16_arrived_277 : decode cX16_arrived 277 = .ok (.dup, 1) := by decide +kernel
theorem dX16_arrived_278 : decode cX16_arrived 278 = .ok (.getfield 348, 3) := by decide +kernel
theorem dX16_arrived_281 : decode cX16_arrived 281 = .ok (.iconst 1, 1) := by decide +kernel
theorem dX16_arrived_282 : decode cX16_arrived 282 = .ok (.iadd, 1) := by decide +kernel
theorem dX16_arrived_283 : decode cX16_arrived 283 = .ok (.putfield 348, 3) := by decide +kernel
theorem dX16_arrived_286 : decode cX16_arrived 286 = .ok (.aload_n 1, 1) := by decide +kernel
theorem dX16_arrived_287 : decode cX16_arrived 287 = .ok (.iconst 1, 1) := by decide +kernel
theorem dX16_arrived_288 : decode cX16_arrived 288 = .ok (.putfield 336, 3) := by decide +kernel
theorem dX16_arrived_291 : decode cX16_arrived 291 = .ok (.aload_n 1, 1) := by decide +kernel
theorem dX16_arrived_292 : decode cX16_arrived 292 = .ok (.getfield 152, 3) := by decide +kernel
theorem dX16_arrived_295 : decode cX16_arrived 295 = .ok (.iconst 2, 1) := by decide +kernel
theorem dX16_arrived_296 : decode cX16_arrived 296 = .ok (.if_icmp .ne 12, 3) := by decide +kernel
theorem dX16_arrived_299 : decode cX16_arrived 299 = .ok (.aload_n 1, 1) := by decide +kernel
theorem dX16_arrived_300 : decode cX16_arrived 300 = .ok (.bipush 7, 2) := by decide +kernel
theorem dX16_arrived_302 : decode cX16_arrived 302 = .ok (.putfield 152, 3) := by decide +kernel
theorem dX16_arrived_305 : decode cX16_arrived 305 = .ok (.goto 29, 3) := by decide +kernel
theorem dX16_arrived_308 : decode cX16_arrived 308 = .ok (.aload_n 1, 1) := by decide +kernel
theorem dX16_arrived_309 : decode cX16_arrived 309 = .ok (.aload_n 1, 1) := by decide +kernel
theorem dX16_arrived_310 : decode cX16_arrived 310 = .ok (.getfield 152, 3) := by decide +kernel
theorem dX16_arrived_313 : decode cX16_arrived 313 = .ok (.iconst 3, 1) := by decide +kernel
theorem dX16_arrived_314 : decode cX16_arrived 314 = .ok (.if_icmp .ne 7, 3) := by decide +kernel
theorem dX16_arrived_317 : decode cX16_arrived 317 = .ok (.iconst 5, 1) := by decide +kernel
theorem dX16_arrived_318 : decode cX16_arrived 318 = .ok (.goto 5, 3) := by decide +kernel
theorem dX16_arrived_321 : decode cX16_arrived 321 = .ok (.bipush 6, 2) := by decide +kernel
theorem dX16_arrived_323 : decode cX16_arrived 323 = .ok (.putfield 152, 3) := by decide +kernel
theorem dX16_arrived_326 : decode cX16_arrived 326 = .ok (.aload_n 1, 1) := by decide +kernel
theorem dX16_arrived_327 : decode cX16_arrived 327 = .ok (.aload_n 0, 1) := by decide +kernel
theorem dX16_arrived_328 : decode cX16_arrived 328 = .ok (.getfield 134, 3) := by decide +kernel
theorem dX16_arrived_331 : decode cX16_arrived 331 = .ok (.putfield 499, 3) := by decide +kernel
theorem dX16_arrived_334 : decode cX16_arrived 334 = .ok (.return_, 1) := by decide +kernel
theorem wX16_arrived_L323 {x : GX} {n0 sl0 : Nat} (X : Cx x cX16_arrived RX16 none n0 sl0 2 40) {out : Mm} (hE : Ends x n0 sl0 none out) (hn : xn x = 7) (fu : Nat)   (a0 : Nat) (a1 : Option Nat) (s0 : Option Nat) (s1 : Int32) (M : Mm) (h : fX16_arrived_L323 fu  a0 a1 s0 s1 M = some out) : Gw x M 323 [(0, pR (some a0)), (1, pR a1)] [pI s1, pR s0] := by
  unfold fX16_arrived_L323 at h
  obtain ⟨M1, eM1, h⟩ := bd h
  refine g_putI X (pc := 323) fk_12_0 rfl rfl rfl eM1 tb_1580 (Or.inl rfl) dX16_arrived_323 ?_
  refine g_aload_n X (pc := 326) 1 rfl rfl dX16_arrived_326 ?_
  refine g_aload_n X (pc := 327) 0 rfl rfl dX16_arrived_327 ?_
  obtain ⟨v2, ev2, h⟩ := bd h
  refine g_getI X (pc := 328) fk_16_10 rfl rfl ev2 tb_1824 dX16_arrived_328 ?_
  obtain ⟨M3, eM3, h⟩ := bd h
  refine g_putI X (pc := 331) fk_12_45 rfl rfl rfl eM3 tb_1635 (Or.inl rfl) dX16_arrived_331 ?_
  obtain rfl := Option.some.inj h
  exact g_return X hE dX16_arrived_334
theorem wX16_arrived_L246 {x : GX} {n0 sl0 : Nat} (X : Cx x cX16_arrived RX16 none n0 sl0 2 40) {out : Mm} (hE : Ends x n0 sl0 none out) (hn : xn x = 7) (fu : Nat)   (a0 : Nat) (a1 : Option Nat)  (M : Mm) (h : fX16_arrived_L246 fu  a0 a1 M = some out) : Gw x M 246 [(0, pR (some a0)), (1, pR a1)] [] := by
  unfold fX16_arrived_L246 at h
  refine g_aload_n X (pc := 246) 1 rfl rfl dX16_arrived_246 ?_
  obtain ⟨v1, ev1, h⟩ := bd h
  refine g_getI X (pc := 247) fk_12_40 rfl rfl ev1 tb_1629 dX16_arrived_247 ?_
  refine g_if_eq X (pc := 250) (tgt := 334) dX16_arrived_250 (by decide) (fun hc => ?_) (fun hc => ?_)
  · have h := (if_pos hc).symm.trans h
    obtain rfl := Option.some.inj h
    exact g_return X hE dX16_arrived_334
  · have h := (if_neg hc).symm.trans h
    refine g_aload_n X (pc := 253) 1 rfl rfl dX16_arrived_253 ?_
    obtain ⟨v2, ev2, h⟩ := bd h
    refine g_getI X (pc := 254) fk_12_41 rfl rfl ev2 tb_1631 dX16_arrived_254 ?_
    refine g_if_ne X (pc := 257) (tgt := 334) dX16_arrived_257 (by decide) (fun hc => ?_) (fun hc => ?_)
    · have h := (if_neg hc).symm.trans h
      obtain rfl := Option.some.inj h
      exact g_return X hE dX16_arrived_334
    · have h := (if_pos hc).symm.trans h
      refine g_aload_n X (pc := 260) 1 rfl rfl dX16_arrived_260 ?_
      obtain ⟨v3, ev3, h⟩ := bd h
      refine g_getI X (pc := 261) fk_12_36 rfl rfl ev3 tb_1625 dX16_arrived_261 ?_
      refine g_aload_n X (pc := 264) 1 rfl rfl dX16_arrived_264 ?_
      obtain ⟨v4, ev4, h⟩ := bd h
      refine g_getI X (pc := 265) fk_12_42 rfl rfl ev4 tb_1632 dX16_arrived_265 ?_
      refine g_icmp_ne X (pc := 268) (tgt := 334) dX16_arrived_268 (by decide) (fun hc => ?_) (fun hc => ?_)
      · have h := (if_neg hc).symm.trans h
        obtain rfl := Option.some.inj h
        exact g_return X hE dX16_arrived_334
      · have h := (if_pos hc).symm.trans h
        refine g_aload_n X (pc := 271) 1 rfl rfl dX16_arrived_271 ?_
        refine g_iconst X (pc := 272) (v := 1) dX16_arrived_272 (by decide) ?_
        obtain ⟨M5, eM5, h⟩ := bd h
        refine g_putZ X (pc := 273) fk_12_41 rfl rfl rfl eM5 tb_1631 (Or.inl rfl) dX16_arrived_273 ?_
        refine g_aload_n X (pc := 276) 1 rfl rfl dX16_arrived_276 ?_
        refine g_dup X (pc := 277) rfl dX16_arrived_277 ?_
        obtain ⟨v6, ev6, h⟩ := bd h
        refine g_getI X (pc := 278) fk_12_36 rfl rfl ev6 tb_1625 dX16_arrived_278 ?_
        refine g_iconst X (pc := 281) (v := 1) dX16_arrived_281 (by decide) ?_
        refine g_iadd X (pc := 282) dX16_arrived_282 ?_
        obtain ⟨M7, eM7, h⟩ := bd h
        refine g_putI X (pc := 283) fk_12_36 rfl rfl rfl eM7 tb_1625 (Or.inl rfl) dX16_arrived_283 ?_
        refine g_aload_n X (pc := 286) 1 rfl rfl dX16_arrived_286 ?_
        refine g_iconst X (pc := 287) (v := 1) dX16_arrived_287 (by decide) ?_
        obtain ⟨M8, eM8, h⟩ := bd h
        refine g_putZ X (pc := 288) fk_12_39 rfl rfl rfl eM8 tb_1628 (Or.inl rfl) dX16_arrived_288 ?_
        refine g_aload_n X (pc := 291) 1 rfl rfl dX16_arrived_291 ?_
        obtain ⟨v9, ev9, h⟩ := bd h
        refine g_getI X (pc := 292) fk_12_0 rfl rfl ev9 tb_1580 dX16_arrived_292 ?_
        refine g_iconst X (pc := 295) (v := 2) dX16_arrived_295 (by decide) ?_
        refine g_icmp_ne X (pc := 296) (tgt := 308) dX16_arrived_296 (by decide) (fun hc => ?_) (fun hc => ?_)
        · have h := (if_neg hc).symm.trans h
          refine g_aload_n X (pc := 308) 1 rfl rfl dX16_arrived_308 ?_
          refine g_aload_n X (pc := 309) 1 rfl rfl dX16_arrived_309 ?_
          obtain ⟨v10, ev10, h⟩ := bd h
          refine g_getI X (pc := 310) fk_12_0 rfl rfl ev10 tb_1580 dX16_arrived_310 ?_
          refine g_iconst X (pc := 313) (v := 3) dX16_arrived_313 (by decide) ?_
          refine g_icmp_ne X (pc := 314) (tgt := 321) dX16_arrived_314 (by decide) (fun hc => ?_) (fun hc => ?_)
          · have h := (if_neg hc).symm.trans h
            refine g_bipush X (pc := 321) (v := 6) dX16_arrived_321 (by decide) ?_
            exact wX16_arrived_L323 X hE hn fu   a0 a1 a1 (6 : Int32) M8 h
          · have h := (if_pos hc).symm.trans h
            refine g_iconst X (pc := 317) (v := 5) dX16_arrived_317 (by decide) ?_
            refine g_goto X (pc := 318) (tgt := 323) dX16_arrived_318 (by decide) ?_
            exact wX16_arrived_L323 X hE hn fu   a0 a1 a1 (5 : Int32) M8 h
        · have h := (if_pos hc).symm.trans h
          refine g_aload_n X (pc := 299) 1 rfl rfl dX16_arrived_299 ?_
          refine g_bipush X (pc := 300) (v := 7) dX16_arrived_300 (by decide) ?_
          obtain ⟨M11, eM11, h⟩ := bd h
          refine g_putI X (pc := 302) fk_12_0 rfl rfl rfl eM11 tb_1580 (Or.inl rfl) dX16_arrived_302 ?_
          refine g_goto X (pc := 305) (tgt := 334) dX16_arrived_305 (by decide) ?_
          obtain rfl := Option.some.inj h
          exact g_return X hE dX16_arrived_334
theorem wX16_arrived_L233 {x : GX} {n0 sl0 : Nat} (X : Cx x cX16_arrived RX16 none n0 sl0 2 40) {out : Mm} (hE : Ends x n0 sl0 none out) (hn : xn x = 7) (fu : Nat)   (a0 : Nat) (a1 : Option Nat)  (M : Mm) (h : fX16_arrived_L233 fu  a0 a1 M = some out) : Gw x M 233 [(0, pR (some a0)), (1, pR a1)] [] := by
  unfold fX16_arrived_L233 at h
  refine g_aload_n X (pc := 233) 0 rfl rfl dX16_arrived_233 ?_
  refine g_iconst X (pc := 234) (v := 1) dX16_arrived_234 (by decide) ?_
  obtain ⟨q1, eq1, h⟩ := bd h
  obtain ⟨v3, M2, eM2, h⟩ := b2d h
  refine g_callV X (pc := 235) (M' := M2) (ro := some (pI v3)) (c := 16) rfl (by decide) (as := [pI (1 : Int32)]) (as' := [pI (1 : Int32)]) (st := []) eq1 (ctX16_is _ _ _ _ _ _ fu q1 (1 : Int32) M _ eM2) tb_2250 tb_2247 tb_2249 ts_104 tb_8 ⟨rfl, hyX16_is⟩ rfl rfl ⟨by decide, by decide⟩ (Nat.le_of_ble_eq_true rfl) dX16_arrived_235 ?_
  refine g_if_eq X (pc := 238) (tgt := 246) dX16_arrived_238 (by decide) (fun hc => ?_) (fun hc => ?_)
  · have h := (if_pos hc).symm.trans h
    exact wX16_arrived_L246 X hE hn fu   a0 a1 M2 h
  · have h := (if_neg hc).symm.trans h
    refine g_aload_n X (pc := 241) 1 rfl rfl dX16_arrived_241 ?_
    refine g_iconst X (pc := 242) (v := 1) dX16_arrived_242 (by decide) ?_
    obtain ⟨M4, eM4, h⟩ := bd h
    refine g_putZ X (pc := 243) fk_12_39 rfl rfl rfl eM4 tb_1628 (Or.inl rfl) dX16_arrived_243 ?_
    exact wX16_arrived_L246 X hE hn fu   a0 a1 M4 h
theorem wX16_arrived_L176 {x : GX} {n0 sl0 : Nat} (X : Cx x cX16_arrived RX16 none n0 sl0 2 40) {out : Mm} (hE : Ends x n0 sl0 none out) (hn : xn x = 7) (fu : Nat)   (a0 : Nat) (a1 : Option Nat) (a2 : Int32) (a3 : Int32)  (M : Mm) (h : fX16_arrived_L176 fu  a0 a1 a2 a3 M = some out) : Gw x M 176 [(0, pR (some a0)), (1, pR a1), (2, pI a2), (3, pI a3)] [] := by
  unfold fX16_arrived_L176 at h
  refine g_aload_n X (pc := 176) 0 rfl rfl dX16_arrived_176 ?_
  refine g_iconst X (pc := 177) (v := 1) dX16_arrived_177 (by decide) ?_
  obtain ⟨q1, eq1, h⟩ := bd h
  obtain ⟨v3, M2, eM2, h⟩ := b2d h
  refine g_callV X (pc := 178) (M' := M2) (ro := some (pI v3)) (c := 16) rfl (by decide) (as := [pI (1 : Int32)]) (as' := [pI (1 : Int32)]) (st := []) eq1 (ctX16_is _ _ _ _ _ _ fu q1 (1 : Int32) M _ eM2) tb_2250 tb_2247 tb_2249 ts_104 tb_8 ⟨rfl, hyX16_is⟩ rfl rfl ⟨by decide, by decide⟩ (Nat.le_of_ble_eq_true rfl) dX16_arrived_178 ?_
  refine g_if_eq X (pc := 181) (tgt := 233) dX16_arrived_181 (by decide) (fun hc => ?_) (fun hc => ?_)
  · have h := (if_pos hc).symm.trans h
    refine g_sub [0, 1] [(0, pR (some a0)), (1, pR a1)] rfl ?_
    exact wX16_arrived_L233 X hE hn fu   a0 a1 M2 h
  · have h := (if_neg hc).symm.trans h
    refine g_aload_n X (pc := 184) 1 rfl rfl dX16_arrived_184 ?_
    obtain ⟨v4, ev4, h⟩ := bd h
    refine g_getI X (pc := 185) fk_12_40 rfl rfl ev4 tb_1629 dX16_arrived_185 ?_
    refine g_if_ne X (pc := 188) (tgt := 233) dX16_arrived_188 (by decide) (fun hc => ?_) (fun hc => ?_)
    · have h := (if_neg hc).symm.trans h
      refine g_sub [0, 1] [(0, pR (some a0)), (1, pR a1)] rfl ?_
      exact wX16_arrived_L233 X hE hn fu   a0 a1 M2 h
    · have h := (if_pos hc).symm.trans h
      refine g_aload_n X (pc := 191) 0 rfl rfl dX16_arrived_191 ?_
      obtain ⟨v5, ev5, h⟩ := bd h
      refine g_getI X (pc := 192) fk_16_34 rfl rfl ev5 tb_1848 dX16_arrived_192 ?_
      refine g_aload_n X (pc := 195) 0 rfl rfl dX16_arrived_195 ?_
      obtain ⟨v6, ev6, h⟩ := bd h
      refine g_getI X (pc := 196) fk_16_39 rfl rfl ev6 tb_1853 dX16_arrived_196 ?_
      refine g_iadd X (pc := 199) dX16_arrived_199 ?_
      refine g_istore X (pc := 200) [(4, pI (v5 + v6)), (0, pR (some a0)), (1, pR a1), (2, pI a2), (3, pI a3)] (lt_n hn (by decide)) rfl dX16_arrived_200 ?_
      refine g_iload X (pc := 202) 0 rfl dX16_arrived_202 ?_
      refine g_iload_n X (pc := 204) 4 rfl rfl dX16_arrived_204 ?_
      obtain ⟨v8, M7, eM7, h⟩ := b2d h
      refine g_callS X (pc := 205) (M' := M7) (ro := some (pI v8)) (as := [pI (v5 + v6), pI a3]) (as' := [pI a3, pI (v5 + v6)]) (st := []) (ctX16_before _ _ _ _ _ _ fu  (v5 + v6) a3 M2 _ eM7) tb_2170 tb_2168 tb_2169 tb_8 hyX16_before rfl rfl ⟨by decide, by decide⟩ (Nat.le_of_ble_eq_true rfl) dX16_arrived_205 ?_
      refine g_if_ne X (pc := 208) (tgt := 233) dX16_arrived_208 (by decide) (fun hc => ?_) (fun hc => ?_)
      · have h := (if_neg hc).symm.trans h
        refine g_sub [1, 2] [(0, pR (some a0)), (1, pR a1)] rfl ?_
        exact wX16_arrived_L233 X hE hn fu   a0 a1 M7 h
      · have h := (if_pos hc).symm.trans h
        refine g_iload X (pc := 211) 0 rfl dX16_arrived_211 ?_
        refine g_iload_n X (pc := 213) 4 rfl rfl dX16_arrived_213 ?_
        refine g_iload_n X (pc := 214) 3 rfl rfl dX16_arrived_214 ?_
        refine g_iadd X (pc := 215) dX16_arrived_215 ?_
        obtain ⟨v10, M9, eM9, h⟩ := b2d h
        refine g_callS X (pc := 216) (M' := M9) (ro := some (pI v10)) (as := [pI (v5 + v6), pI (a3 + a2)]) (as' := [pI (a3 + a2), pI (v5 + v6)]) (st := []) (ctX16_before _ _ _ _ _ _ fu  (v5 + v6) (a3 + a2) M7 _ eM9) tb_2170 tb_2168 tb_2169 tb_8 hyX16_before rfl rfl ⟨by decide, by decide⟩ (Nat.le_of_ble_eq_true rfl) dX16_arrived_216 ?_
        refine g_if_eq X (pc := 219) (tgt := 233) dX16_arrived_219 (by decide) (fun hc => ?_) (fun hc => ?_)
        · have h := (if_pos hc).symm.trans h
          refine g_sub [1, 2] [(0, pR (some a0)), (1, pR a1)] rfl ?_
          exact wX16_arrived_L233 X hE hn fu   a0 a1 M9 h
        · have h := (if_neg hc).symm.trans h
          refine g_aload_n X (pc := 222) 2 rfl rfl dX16_arrived_222 ?_
          refine g_iconst X (pc := 223) (v := 1) dX16_arrived_223 (by decide) ?_
          obtain ⟨M11, eM11, h⟩ := bd h
          refine g_putZ X (pc := 224) fk_12_40 rfl rfl rfl eM11 tb_1629 (Or.inl rfl) dX16_arrived_224 ?_
          refine g_aload_n X (pc := 227) 2 rfl rfl dX16_arrived_227 ?_
          refine g_iload X (pc := 228) 0 rfl dX16_arrived_228 ?_
          obtain ⟨M12, eM12, h⟩ := bd h
          refine g_putI X (pc := 230) fk_12_42 rfl rfl rfl eM12 tb_1632 (Or.inl rfl) dX16_arrived_230 ?_
          refine g_sub [1, 2] [(0, pR (some a0)), (1, pR a1)] rfl ?_
          exact wX16_arrived_L233 X hE hn fu   a0 a1 M12 h
theorem wX16_arrived_L131 {x : GX} {n0 sl0 : Nat} (X : Cx x cX16_arrived RX16 none n0 sl0 2 40) {out : Mm} (hE : Ends x n0 sl0 none out) (hn : xn x = 7) (fu : Nat)   : ∀ (n : Nat) (a0 : Nat) (a1 : Option Nat) (a2 : Int32) (a3 : Int32)  (M : Mm), fX16_arrived_L131 fu  n a0 a1 a2 a3 M = some out → Gw x M 131 [(0, pR (some a0)), (1, pR a1), (2, pI a2), (3, pI a3)] [] := by
  intro n
  induction n with
  | zero =>
    intro a0 a1 a2 a3 M h
    have h : (none : Option (Mm)) = some out := h
    cases h
  | succ n ih =>
    intro a0 a1 a2 a3 M h
    rw [fX16_arrived_L131] at h
    refine g_aload_n X (pc := 131) 1 rfl rfl dX16_arrived_131 ?_
    obtain ⟨v1, ev1, h⟩ := bd h
    refine g_getI X (pc := 132) fk_12_36 rfl rfl ev1 tb_1625 dX16_arrived_132 ?_
    refine g_aload_n X (pc := 135) 1 rfl rfl dX16_arrived_135 ?_
    obtain ⟨v2, ev2, h⟩ := bd h
    refine g_getI X (pc := 136) fk_12_35 rfl rfl ev2 tb_1623 dX16_arrived_136 ?_
    refine g_isub X (pc := 139) dX16_arrived_139 ?_
    refine g_sipush X (pc := 140) (v := 4096) dX16_arrived_140 (by decide) ?_
    refine g_icmp_ge X (pc := 143) (tgt := 176) dX16_arrived_143 (by decide) (fun hc => ?_) (fun hc => ?_)
    · have h := (if_pos hc).symm.trans h
      exact wX16_arrived_L176 X hE hn fu   a0 a1 a2 a3 M h
    · have h := (if_neg hc).symm.trans h
      refine g_aload_n X (pc := 146) 1 rfl rfl dX16_arrived_146 ?_
      obtain ⟨v3, ev3, h⟩ := bd h
      refine g_getR X (pc := 147) fk_12_33 rfl rfl ev3 tb_1620 dX16_arrived_147 ?_
      refine g_aload_n X (pc := 150) 1 rfl rfl dX16_arrived_150 ?_
      obtain ⟨v4, ev4, h⟩ := bd h
      refine g_getI X (pc := 151) fk_12_36 rfl rfl ev4 tb_1625 dX16_arrived_151 ?_
      refine g_aload_n X (pc := 154) 1 rfl rfl dX16_arrived_154 ?_
      obtain ⟨v5, ev5, h⟩ := bd h
      refine g_getI X (pc := 155) fk_12_35 rfl rfl ev5 tb_1623 dX16_arrived_155 ?_
      refine g_isub X (pc := 158) dX16_arrived_158 ?_
      obtain ⟨v6, ev6, h⟩ := bd h
      refine g_zaload X (pc := 159) ev6 dX16_arrived_159 ?_
      refine g_if_eq X (pc := 160) (tgt := 176) dX16_arrived_160 (by decide) (fun hc => ?_) (fun hc => ?_)
      · have h := (if_pos hc).symm.trans h
        exact wX16_arrived_L176 X hE hn fu   a0 a1 a2 a3 M h
      · have h := (if_neg hc).symm.trans h
        refine g_aload_n X (pc := 163) 1 rfl rfl dX16_arrived_163 ?_
        refine g_dup X (pc := 164) rfl dX16_arrived_164 ?_
        obtain ⟨v7, ev7, h⟩ := bd h
        refine g_getI X (pc := 165) fk_12_36 rfl rfl ev7 tb_1625 dX16_arrived_165 ?_
        refine g_iconst X (pc := 168) (v := 1) dX16_arrived_168 (by decide) ?_
        refine g_iadd X (pc := 169) dX16_arrived_169 ?_
        obtain ⟨M8, eM8, h⟩ := bd h
        refine g_putI X (pc := 170) fk_12_36 rfl rfl rfl eM8 tb_1625 (Or.inl rfl) dX16_arrived_170 ?_
        refine g_goto X (pc := 173) (tgt := 131) dX16_arrived_173 (by decide) ?_
        exact ih a0 a1 a2 a3 M8 h
theorem wX16_arrived_L125 {x : GX} {n0 sl0 : Nat} (X : Cx x cX16_arrived RX16 none n0 sl0 2 40) {out : Mm} (hE : Ends x n0 sl0 none out) (hn : xn x = 7) (fu : Nat) (k41 : Nat → Option Nat → Int32 → Int32 → Int32 → Mm → Option (Mm)) (hk41 : ∀ (b0 : Nat) (b1 : Option Nat) (b2 : Int32) (b3 : Int32) (b4 : Int32)  (M : Mm), k41 b0 b1 b2 b3 b4 M = some out → Gw x M 41 [(0, pR (some b0)), (1, pR b1), (2, pI b2), (3, pI b3), (4, pI b4)] []) (a0 : Nat) (a1 : Option Nat) (a2 : Int32) (a3 : Int32) (a4 : Int32)  (M : Mm) (h : fX16_arrived_L125 fu k41 a0 a1 a2 a3 a4 M = some out) : Gw x M 125 [(0, pR (some a0)), (1, pR a1), (2, pI a2), (3, pI a3), (4, pI a4)] [] := by
  unfold fX16_arrived_L125 at h
  refine g_iinc X (pc := 125) 4 [(4, pI (a4 + (1 : Int32))), (0, pR (some a0)), (1, pR a1), (2, pI a2), (3, pI a3)] rfl (iinc_e (by decide)) (lt_n hn (by decide)) rfl dX16_arrived_125 ?_
  refine g_goto X (pc := 128) (tgt := 41) dX16_arrived_128 (by decide) ?_
  refine g_sub [1, 2, 3, 4, 0] [(0, pR (some a0)), (1, pR a1), (2, pI a2), (3, pI a3), (4, pI (a4 + (1 : Int32)))] rfl ?_
  exact hk41 a0 a1 a2 a3 (a4 + (1 : Int32)) M h
theorem wX16_arrived_L41 {x : GX} {n0 sl0 : Nat} (X : Cx x cX16_arrived RX16 none n0 sl0 2 40) {out : Mm} (hE : Ends x n0 sl0 none out) (hn : xn x = 7) (fu : Nat)   : ∀ (n : Nat) (a0 : Nat) (a1 : Option Nat) (a2 : Int32) (a3 : Int32) (a4 : Int32)  (M : Mm), fX16_arrived_L41 fu  n a0 a1 a2 a3 a4 M = some out → Gw x M 41 [(0, pR (some a0)), (1, pR a1), (2, pI a2), (3, pI a3), (4, pI a4)] [] := by
  intro n
  induction n with
  | zero =>
    intro a0 a1 a2 a3 a4 M h
    have h : (none : Option (Mm)) = some out := h
    cases h
  | succ n ih =>
    intro a0 a1 a2 a3 a4 M h
    rw [fX16_arrived_L41] at h
    refine g_iload X (pc := 41) 4 rfl dX16_arrived_41 ?_
    refine g_aload_n X (pc := 43) 0 rfl rfl dX16_arrived_43 ?_
    obtain ⟨v1, ev1, h⟩ := bd h
    refine g_getI X (pc := 44) fk_16_39 rfl rfl ev1 tb_1853 dX16_arrived_44 ?_
    refine g_icmp_ge X (pc := 47) (tgt := 131) dX16_arrived_47 (by decide) (fun hc => ?_) (fun hc => ?_)
    · have h := (if_pos hc).symm.trans h
      refine g_sub [0, 1, 2, 3] [(0, pR (some a0)), (1, pR a1), (2, pI a2), (3, pI a3)] rfl ?_
      exact wX16_arrived_L131 X hE hn fu   fu a0 a1 a2 a3 M h
    · have h := (if_neg hc).symm.trans h
      refine g_aload_n X (pc := 50) 0 rfl rfl dX16_arrived_50 ?_
      obtain ⟨v2, ev2, h⟩ := bd h
      refine g_getI X (pc := 51) fk_16_34 rfl rfl ev2 tb_1848 dX16_arrived_51 ?_
      refine g_iload X (pc := 54) 4 rfl dX16_arrived_54 ?_
      refine g_iadd X (pc := 56) dX16_arrived_56 ?_
      refine g_istore X (pc := 57) [(5, pI (v2 + a4)), (0, pR (some a0)), (1, pR a1), (2, pI a2), (3, pI a3), (4, pI a4)] (lt_n hn (by decide)) rfl dX16_arrived_57 ?_
      refine g_iload X (pc := 59) 0 rfl dX16_arrived_59 ?_
      refine g_iload_n X (pc := 61) 4 rfl rfl dX16_arrived_61 ?_
      obtain ⟨v4, M3, eM3, h⟩ := b2d h
      refine g_callS X (pc := 62) (M' := M3) (ro := some (pI v4)) (as := [pI (v2 + a4), pI a3]) (as' := [pI a3, pI (v2 + a4)]) (st := []) (ctX16_before _ _ _ _ _ _ fu  (v2 + a4) a3 M _ eM3) tb_2170 tb_2168 tb_2169 tb_8 hyX16_before rfl rfl ⟨by decide, by decide⟩ (Nat.le_of_ble_eq_true rfl) dX16_arrived_62 ?_
      refine g_if_ne X (pc := 65) (tgt := 125) dX16_arrived_65 (by decide) (fun hc => ?_) (fun hc => ?_)
      · have h := (if_neg hc).symm.trans h
        refine g_sub [1, 2, 3, 4, 5] [(0, pR (some a0)), (1, pR a1), (2, pI a2), (3, pI a3), (4, pI a4)] rfl ?_
        exact wX16_arrived_L125 X hE hn fu (fun b0 b1 b2 b3 b4 M => fX16_arrived_L41 fu  n b0 b1 b2 b3 b4 M) ih a0 a1 a2 a3 a4 M3 h
      · have h := (if_pos hc).symm.trans h
        refine g_iload X (pc := 68) 0 rfl dX16_arrived_68 ?_
        refine g_iload_n X (pc := 70) 4 rfl rfl dX16_arrived_70 ?_
        refine g_iload_n X (pc := 71) 3 rfl rfl dX16_arrived_71 ?_
        refine g_iadd X (pc := 72) dX16_arrived_72 ?_
        obtain ⟨v6, M5, eM5, h⟩ := b2d h
        refine g_callS X (pc := 73) (M' := M5) (ro := some (pI v6)) (as := [pI (v2 + a4), pI (a3 + a2)]) (as' := [pI (a3 + a2), pI (v2 + a4)]) (st := []) (ctX16_before _ _ _ _ _ _ fu  (v2 + a4) (a3 + a2) M3 _ eM5) tb_2170 tb_2168 tb_2169 tb_8 hyX16_before rfl rfl ⟨by decide, by decide⟩ (Nat.le_of_ble_eq_true rfl) dX16_arrived_73 ?_
        refine g_if_eq X (pc := 76) (tgt := 125) dX16_arrived_76 (by decide) (fun hc => ?_) (fun hc => ?_)
        · have h := (if_pos hc).symm.trans h
          refine g_sub [1, 2, 3, 4, 5] [(0, pR (some a0)), (1, pR a1), (2, pI a2), (3, pI a3), (4, pI a4)] rfl ?_
          exact wX16_arrived_L125 X hE hn fu (fun b0 b1 b2 b3 b4 M => fX16_arrived_L41 fu  n b0 b1 b2 b3 b4 M) ih a0 a1 a2 a3 a4 M5 h
        · have h := (if_neg hc).symm.trans h
          refine g_iload X (pc := 79) 0 rfl dX16_arrived_79 ?_
          refine g_aload_n X (pc := 81) 2 rfl rfl dX16_arrived_81 ?_
          obtain ⟨v7, ev7, h⟩ := bd h
          refine g_getI X (pc := 82) fk_12_35 rfl rfl ev7 tb_1623 dX16_arrived_82 ?_
          refine g_isub X (pc := 85) dX16_arrived_85 ?_
          refine g_istore X (pc := 86) [(6, pI ((v2 + a4) - v7)), (5, pI (v2 + a4)), (0, pR (some a0)), (1, pR a1), (2, pI a2), (3, pI a3), (4, pI a4)] (lt_n hn (by decide)) rfl dX16_arrived_86 ?_
          refine g_aload_n X (pc := 88) 3 rfl rfl dX16_arrived_88 ?_
          obtain ⟨v8, ev8, h⟩ := bd h
          refine g_getR X (pc := 89) fk_12_33 rfl rfl ev8 tb_1620 dX16_arrived_89 ?_
          refine g_iload X (pc := 92) 0 rfl dX16_arrived_92 ?_
          obtain ⟨v9, ev9, h⟩ := bd h
          refine g_zaload X (pc := 94) ev9 dX16_arrived_94 ?_
          refine g_if_ne X (pc := 95) (tgt := 125) dX16_arrived_95 (by decide) (fun hc => ?_) (fun hc => ?_)
          · have h := (if_neg hc).symm.trans h
            refine g_sub [2, 3, 4, 5, 6] [(0, pR (some a0)), (1, pR a1), (2, pI a2), (3, pI a3), (4, pI a4)] rfl ?_
            exact wX16_arrived_L125 X hE hn fu (fun b0 b1 b2 b3 b4 M => fX16_arrived_L41 fu  n b0 b1 b2 b3 b4 M) ih a0 a1 a2 a3 a4 M5 h
          · have h := (if_pos hc).symm.trans h
            refine g_aload_n X (pc := 98) 3 rfl rfl dX16_arrived_98 ?_
            obtain ⟨v10, ev10, h⟩ := bd h
            refine g_getR X (pc := 99) fk_12_33 rfl rfl ev10 tb_1620 dX16_arrived_99 ?_
            refine g_iload X (pc := 102) 0 rfl dX16_arrived_102 ?_
            refine g_iconst X (pc := 104) (v := 1) dX16_arrived_104 (by decide) ?_
            obtain ⟨M11, eM11, h⟩ := bd h
            refine g_zastore X (pc := 105) eM11 dX16_arrived_105 ?_
            refine g_aload_n X (pc := 106) 3 rfl rfl dX16_arrived_106 ?_
            obtain ⟨v12, ev12, h⟩ := bd h
            refine g_getR X (pc := 107) fk_12_32 rfl rfl ev12 tb_1618 dX16_arrived_107 ?_
            refine g_iload X (pc := 110) 0 rfl dX16_arrived_110 ?_
            refine g_aload_n X (pc := 112) 2 rfl rfl dX16_arrived_112 ?_
            obtain ⟨v13, ev13, h⟩ := bd h
            refine g_getR X (pc := 113) fk_16_29 rfl rfl ev13 tb_1843 dX16_arrived_113 ?_
            refine g_aload_n X (pc := 116) 2 rfl rfl dX16_arrived_116 ?_
            obtain ⟨v14, ev14, h⟩ := bd h
            refine g_getI X (pc := 117) fk_16_38 rfl rfl ev14 tb_1852 dX16_arrived_117 ?_
            refine g_iload X (pc := 120) 6 rfl dX16_arrived_120 ?_
            refine g_iadd X (pc := 122) dX16_arrived_122 ?_
            obtain ⟨v15, ev15, h⟩ := bd h
            refine g_baload X (pc := 123) ev15 dX16_arrived_123 ?_
            obtain ⟨M16, eM16, h⟩ := bd h
            refine g_bastore X (pc := 124) eM16 dX16_arrived_124 ?_
            refine g_sub [2, 3, 4, 5, 6] [(0, pR (some a0)), (1, pR a1), (2, pI a2), (3, pI a3), (4, pI a4)] rfl ?_
            exact wX16_arrived_L125 X hE hn fu (fun b0 b1 b2 b3 b4 M => fX16_arrived_L41 fu  n b0 b1 b2 b3 b4 M) ih a0 a1 a2 a3 a4 M16 h
theorem wX16_arrived_L38 {x : GX} {n0 sl0 : Nat} (X : Cx x cX16_arrived RX16 none n0 sl0 2 40) {out : Mm} (hE : Ends x n0 sl0 none out) (hn : xn x = 7) (fu : Nat)   (a0 : Nat) (a1 : Option Nat) (a2 : Int32) (a3 : Int32)  (M : Mm) (h : fX16_arrived_L38 fu  a0 a1 a2 a3 M = some out) : Gw x M 38 [(0, pR (some a0)), (1, pR a1), (2, pI a2), (3, pI a3)] [] := by
  unfold fX16_arrived_L38 at h
  refine g_iconst X (pc := 38) (v := 0) dX16_arrived_38 (by decide) ?_
  refine g_istore X (pc := 39) [(4, pI (0 : Int32)), (0, pR (some a0)), (1, pR a1), (2, pI a2), (3, pI a3)] (lt_n hn (by decide)) rfl dX16_arrived_39 ?_
  refine g_sub [1, 2, 3, 4, 0] [(0, pR (some a0)), (1, pR a1), (2, pI a2), (3, pI a3), (4, pI (0 : Int32))] rfl ?_
  exact wX16_arrived_L41 X hE hn fu   fu a0 a1 a2 a3 (0 : Int32) M h
theorem wX16_arrived {x : GX} {n0 sl0 : Nat} (X : Cx x cX16_arrived RX16 none n0 sl0 2 40) {out : Mm} (hE : Ends x n0 sl0 none out) (hn : xn x = 7) (fu : Nat)   (a0 : Nat) (a1 : Option Nat)  (M : Mm) (h : fX16_arrived fu  a0 a1 M = some out) : Gw x M 0 [(0, pR (some a0)), (1, pR a1)] [] := by
  unfold fX16_arrived at h
  refine g_aload_n X (pc := 0) 1 rfl rfl dX16_arrived_0 ?_
  obtain ⟨v2, M1, eM1, h⟩ := b2d h
  refine g_callS X (pc := 1) (M' := M1) (ro := some (pI v2)) (as := [pR a1]) (as' := [pR a1]) (st := []) (ctX16_takesData _ _ _ _ _ _ fu  a1 M _ eM1) tb_2312 tb_2310 tb_2311 tb_8 hyX16_takesData rfl rfl ⟨by decide, by decide⟩ (Nat.le_of_ble_eq_true rfl) dX16_arrived_1 ?_
  refine g_if_ne X (pc := 4) (tgt := 8) dX16_arrived_4 (by decide) (fun hc => ?_) (fun hc => ?_)
  · have h := (if_neg hc).symm.trans h
    refine g_aload_n X (pc := 8) 1 rfl rfl dX16_arrived_8 ?_
    obtain ⟨q3, eq3, h⟩ := bd h
    obtain ⟨v5, M4, eM4, h⟩ := b2d h
    refine g_callV X (pc := 9) (M' := M4) (ro := some (pI v5)) (c := 12) rfl (by decide) (as := []) (as' := []) (st := []) eq3 (ctX12_open _ _ _ _ _ _ fu q3  M1 _ eM4) tb_2108 tb_2105 tb_2106 tb_2107 tb_9 ⟨rfl, hyX12_open⟩ rfl rfl ⟨by decide, by decide⟩ (Nat.le_of_ble_eq_true rfl) dX16_arrived_9 ?_
    refine g_istore_n X (pc := 12) [(2, pI v5), (0, pR (some a0)), (1, pR a1)] rfl (lt_n hn (by decide)) rfl dX16_arrived_12 ?_
    refine g_aload_n X (pc := 13) 2 rfl rfl dX16_arrived_13 ?_
    obtain ⟨v6, ev6, h⟩ := bd h
    refine g_getI X (pc := 14) fk_12_36 rfl rfl ev6 tb_1625 dX16_arrived_14 ?_
    refine g_istore_n X (pc := 17) [(3, pI v6), (2, pI v5), (0, pR (some a0)), (1, pR a1)] rfl (lt_n hn (by decide)) rfl dX16_arrived_17 ?_
    refine g_aload_n X (pc := 18) 2 rfl rfl dX16_arrived_18 ?_
    obtain ⟨v7, ev7, h⟩ := bd h
    refine g_getI X (pc := 19) fk_16_39 rfl rfl ev7 tb_1853 dX16_arrived_19 ?_
    refine g_if_le X (pc := 22) (tgt := 38) dX16_arrived_22 (by decide) (fun hc => ?_) (fun hc => ?_)
    · have h := (if_pos hc).symm.trans h
      refine g_sub [2, 3, 1, 0] [(0, pR (some a0)), (1, pR a1), (2, pI v5), (3, pI v6)] rfl ?_
      exact wX16_arrived_L38 X hE hn fu   a0 a1 v5 v6 M4 h
    · have h := (if_neg hc).symm.trans h
      refine g_aload_n X (pc := 25) 3 rfl rfl dX16_arrived_25 ?_
      refine g_iconst X (pc := 26) (v := 1) dX16_arrived_26 (by decide) ?_
      obtain ⟨M8, eM8, h⟩ := bd h
      refine g_putZ X (pc := 27) fk_12_39 rfl rfl rfl eM8 tb_1628 (Or.inl rfl) dX16_arrived_27 ?_
      refine g_aload_n X (pc := 30) 3 rfl rfl dX16_arrived_30 ?_
      refine g_aload_n X (pc := 31) 2 rfl rfl dX16_arrived_31 ?_
      obtain ⟨v9, ev9, h⟩ := bd h
      refine g_getI X (pc := 32) fk_16_10 rfl rfl ev9 tb_1824 dX16_arrived_32 ?_
      obtain ⟨M10, eM10, h⟩ := bd h
      refine g_putI X (pc := 35) fk_12_44 rfl rfl rfl eM10 tb_1634 (Or.inl rfl) dX16_arrived_35 ?_
      refine g_sub [2, 3, 1, 0] [(0, pR (some a0)), (1, pR a1), (2, pI v5), (3, pI v6)] rfl ?_
      exact wX16_arrived_L38 X hE hn fu   a0 a1 v5 v6 M10 h
  · have h := (if_pos hc).symm.trans h
    obtain rfl := Option.some.inj h
    exact g_return X hE dX16_arrived_7
theorem hyX16_arrived : yX16_arrived.cls ≠ "java/lang/invoke/MethodHandle" ∧ yX16_arrived.cls ≠ "java/lang/invoke/VarHandle" ∧ (parseMethodDescriptor yX16_arrived.desc).map (fun d => d.parameters.length) = some 1 := ⟨by decide +kernel, by decide +kernel, by decide +kernel⟩
theorem ctX16_arrived (l : Launch) (E : Nat → Nat) (D : va_G) (dA : Nat → ClassId) (lo : Nat) (H0 : Heap) (fu : Nat) (a0 : Nat) (a1 : Option Nat) (M : Mm) (out : Mm) (h : fX16_arrived fu a0 a1 M = some out) : Ct l E D dA lo H0 yX16_arrived cX16_arrived 7 none 2 40 [pR (some a0), pR a1] M none out := by
  refine ct_of (by decide +kernel) (Nat.le_of_ble_eq_true rfl) ?_
  intro x hl he hd ha ho hh hn hin X hE
  exact wX16_arrived X hE hn fu a0 a1 M h
/-! WebHostModel.take(LWebHostModel$Connection;I)V -/
def fX16_take_L71 (fu : Nat) (k2 : Option Nat → Int32 → Int32 → Mm → Option (Mm)) (a1 : Option Nat) (a2 : Int32) (a3 : Int32)  (M : Mm) : Option (Mm) :=
    k2 a1 a2 (a3 + (1 : Int32)) M
def fX16_take_L51 (fu : Nat) (k2 : Option Nat → Int32 → Int32 → Mm → Option (Mm)) (a1 : Option Nat) (a2 : Int32) (a3 : Int32) (a4 : Int32) (s0 : Option Nat) (s1 : Int32) (s2 : Int32) (M : Mm) : Option (Mm) :=
    (pA M 102 s0 s1 (s2 &&& 1)).bind fun M1 =>
    if a4 = 0 then (
    fX16_take_L71 fu k2 a1 a2 a3 M1)
    else (
    (gR M1 12 800 a1).bind fun v2 =>
    (gR M1 12 800 a1).bind fun v3 =>
    (gA M1 100 v3 (a3 + a2)).bind fun v4 =>
    (pA M1 100 v2 a3 (Int8.toInt32 (Int32.toInt8 v4))).bind fun M5 =>
    fX16_take_L71 fu k2 a1 a2 a3 M5)
def fX16_take_L50 (fu : Nat) (k2 : Option Nat → Int32 → Int32 → Mm → Option (Mm)) (a1 : Option Nat) (a2 : Int32) (a3 : Int32) (a4 : Int32) (s0 : Option Nat) (s1 : Int32) (M : Mm) : Option (Mm) :=
    fX16_take_L51 fu k2 a1 a2 a3 a4 s0 s1 (0 : Int32) M
def fX16_take_L23 (fu : Nat) (k2 : Option Nat → Int32 → Int32 → Mm → Option (Mm)) (a1 : Option Nat) (a2 : Int32) (a3 : Int32) (s0 : Int32) (M : Mm) : Option (Mm) :=
    (gR M 12 801 a1).bind fun v1 =>
    if s0 = 0 then (
    fX16_take_L50 fu k2 a1 a2 a3 s0 v1 a3 M)
    else (
    (gR M 12 801 a1).bind fun v2 =>
    (gA M 102 v2 (a3 + a2)).bind fun v3 =>
    if v3 = 0 then (
    fX16_take_L50 fu k2 a1 a2 a3 s0 v1 a3 M)
    else (
    fX16_take_L51 fu k2 a1 a2 a3 s0 v1 a3 (1 : Int32) M))
def fX16_take_L2 (fu : Nat)  : Nat → Option Nat → Int32 → Int32 → Mm → Option (Mm)
  | 0, _, _, _, _ => none
  | n + 1, a1, a2, a3, M =>
    if (4096 : Int32) ≤ a3 then (
    (gI M 12 803 a1).bind fun v1 =>
    (pF M 12 803 a1 (v1 + a2)).bind fun M2 =>
    (rc M2 12 a1).bind fun q3 =>
    b2 (fX12_open fu q3  M2) fun v5 M4 =>
    (gI M4 12 805 a1).bind fun v6 =>
    if (v5 - v6) < (2048 : Int32) then (
    some M4)
    else (
    (pZ M4 12 807 a1 (1 : Int32)).bind fun M7 =>
    some M7))
    else (
    if (4096 : Int32) ≤ (a3 + a2) then (
    fX16_take_L23 fu (fun b1 b2 b3 M => fX16_take_L2 fu  n b1 b2 b3 M) a1 a2 a3 (0 : Int32) M)
    else (
    fX16_take_L23 fu (fun b1 b2 b3 M => fX16_take_L2 fu  n b1 b2 b3 M) a1 a2 a3 (1 : Int32) M))
def fX16_take (fu : Nat)  (a0 : Nat) (a1 : Option Nat) (a2 : Int32)  (M : Mm) : Option (Mm) :=
    fX16_take_L2 fu  fu a1 a2 (0 : Int32) M
theorem dX16_take_0 : decode cX16_take 0 = .ok (.iconst 0, 1) := by decide +kernel
theorem dX16_take_1 : decode cX16_take 1 = .ok (.istore_n 3, 1) := by decide +kernel
theorem dX16_take_2 : decode cX16_take 2 = .ok (.iload_n 3, 1) := by decide +kernel
theorem dX16_take_3 : decode cX16_take 3 = .ok (.sipush 4096, 3) := by decide +kernel
theorem dX16_take_6 : decode cX16_take 6 = .ok (.if_icmp .ge 71, 3) := by decide +kernel
theorem dX16_take_9 : decode cX16_take 9 = .ok (.iload_n 3, 1) := by decide +kernel
theorem dX16_take_10 : decode cX16_take 10 = .ok (.iload_n 2, 1) := by decide +kernel
theorem dX16_take_11 : decode cX16_take 11 = .ok (.iadd, 1) := by decide +kernel
theorem dX16_take_12 : decode cX16_take 12 = .ok (.sipush 4096, 3) := by decide +kernel
theorem dX16_take_15 : decode cX16_take 15 = .ok (.if_icmp .ge 7, 3) := by decide +kernel
theorem dX16_take_18 : decode cX16_take 18 = .ok (.iconst 1, 1) := by decide +kernel
theorem dX16_take_19 : decode cX16_take 19 = .ok (.goto 4, 3) := by decide +kernel
theorem dX16_take_22 : decode cX16_take 22 = .ok (.iconst 0, 1) := by decide +kernel
theorem dX16_take_23 : decode cX16_take 23 = .ok (.istore 4, 2) := by decide +kernel
theorem dX16_take_25 : decode cX16_take 25 = .ok (.aload_n 1, 1) := by decide +kernel
theorem dX16_take_26 : decode cX16_take 26 = .ok (.getfield 484, 3) := by decide +kernel
theorem dX16_take_29 : decode cX16_take 29 = .ok (.iload_n 3, 1) := by decide +kernel
theorem dX16_take_30 : decode cX16_take 30 = .ok (.iload 4, 2) := by decide +kernel
theorem dX16_take_32 : decode cX16_take 32 = .ok (.ifCond .eq 18, 3) := by decide +kernel
theorem dX16_take_35 : decode cX16_take 35 = .ok (.aload_n 1, 1) := by decide +kernel
theorem dX16_take_36 : decode cX16_take 36 = .ok (.getfield 484, 3) := by decide +kernel
theorem dX16_take_39 : decode cX16_take 39 = .ok (.iload_n 3, 1) := by decide +kernel
theorem dX16_take_40 : decode cX16_take 40 = .ok (.iload_n 2, 1) := by decide +kernel
theorem dX16_take_41 : decode cX16_take 41 = .ok (.iadd, 1) := by decide +kernel
theorem dX16_take_42 : decode cX16_take 42 = .ok (.baload, 1) := by decide +kernel
theorem dX16_take_43 : decode cX16_take 43 = .ok (.ifCond .eq 7, 3) := by decide +kernel
theorem dX16_take_46 : decode cX16_take 46 = .ok (.iconst 1, 1) := by decide +kernel
theorem dX16_take_47 : decode cX16_take 47 = .ok (.goto 4, 3) := by decide +kernel
theorem dX16_take_50 : decode cX16_take 50 = .ok (.iconst 0, 1) := by decide +kernel
theorem dX16_take_51 : decode cX16_take 51 = .ok (.bastore, 1) := by decide +kernel
theorem dX16_take_52 : decode cX16_take 52 = .ok (.iload 4, 2) := by decide +kernel
theorem dX16_take_54 : decode cX16_take 54 = .ok (.ifCond .eq 17, 3) := by decide +kernel
theorem dX16_take_57 : decode cX16_take 57 = .ok (.aload_n 1, 1) := by decide +kernel
theorem dX16_take_58 : decode cX16_take 58 = .ok (.getfield 560, 3) := by decide +kernel
theorem dX16_take_61 : decode cX16_take 61 = .ok (.iload_n 3, 1) := by decide +kernel
theorem dX16_take_62 : decode cX16_take 62 = .ok (.aload_n 1, 1) := by decide +kernel
theorem dX16_take_63 : decode cX16_take 63 = .ok (.getfield 560, 3) := by decide +kernel
theorem dX16_take_66 : decode cX16_take 66 = .ok (.iload_n 3, 1) := by decide +kernel
theorem dX16_take_67 : decode cX16_take 67 = .ok (.iload_n 2, 1) := by decide +kernel
theorem dX16_take_68 : decode cX16_take 68 = .ok (.iadd, 1) := by decide +kernel
theorem dX16_take_69 : decode cX16_take 69 = .ok (.baload, 1) := by decide +kernel
theorem dX16_take_70 : decode cX16_take 70 = .ok (.bastore, 1) := by decide +kernel
theorem dX16_take_71 : decode cX16_take 71 = .ok (.iinc 3 1, 3) := by decide +kernel
theorem dX16_take_74 : decode cX16_take 74 = .ok (.goto (-72), 3) := by decide +kernel
theorem dX16_take_77 : decode cX16_take 77 = .ok (.aload_n 1, 1) := by decide +kernel
theorem dX16_take_78 : decode cX16_take 78 = .ok (.aload_n 1, 1) := by decide +kernel
theorem dX16_take_79 : decode cX16_take 79 = .ok (.getfield 444, 3) := by decide +kernel
theorem dX16_take_82 : decode cX16_take 82 = .ok (.iload_n 2, 1) := by decide +kernel
theorem dX16_take_83 : decode cX16_take 83 = .ok (.iadd, 1) := by decide +kernel
theorem dX16_take_84 : decode cX16_take 84 = .ok (.putfield 444, 3) := by decide +kernel
theorem dX16_take_87 : decode cX16_take 87 = .ok (.aload_n 1, 1) := by decide +kernel
theorem dX16_take_88 : decode cX16_take 88 = .ok (.invokevirtual 339, 3) := by decide +kernel
theorem dX16_take_91 : decode cX16_take 91 = .ok (.aload_n 1, 1) := by decide +kernel
theorem dX16_take_92 : decode cX16_take 92 = .ok (.getfield 342, 3) := by decide +kernel
theorem dX16_take_95 : decode cX16_take 95 = .ok (.isub, 1) := by decide +kernel
theorem dX16_take_96 : decode cX16_take 96 = .ok (.sipush 2048, 3) := by decide +kernel
theorem dX16_take_99 : decode cX16_take 99 = .ok (.if_icmp .lt 8, 3) := by decide +kernel
theorem dX16_take_102 : decode cX16_take 102 = .ok (.aload_n 1, 1) := by decide +kernel
theorem dX16_take_103 : decode cX16_take 103 = .ok (.iconst 1, 1) := by decide +kernel
theorem dX16_take_104 : decode cX16_take 104 = .ok (.putfield 336, 3) := by decide +kernel
theorem dX16_take_107 : decode cX16_take 107 = .ok (.return_, 1) := by decide +kernel
theorem wX16_take_L71 {x : GX} {n0 sl0 : Nat} (X : Cx x cX16_take RX16 none n0 sl0 2 40) {out : Mm} (hE : Ends x n0 sl0 none out) (hn : xn x = 5) (fu : Nat) (k2 : Option Nat → Int32 → Int32 → Mm → Option (Mm)) (hk2 : ∀ (b1 : Option Nat) (b2 : Int32) (b3 : Int32)  (M : Mm), k2 b1 b2 b3 M = some out → Gw x M 2 [(1, pR b1), (2, pI b2), (3, pI b3)] []) (a1 : Option Nat) (a2 : Int32) (a3 : Int32)  (M : Mm) (h : fX16_take_L71 fu k2 a1 a2 a3 M = some out) : Gw x M 71 [(1, pR a1), (2, pI a2), (3, pI a3)] [] := by
  unfold fX16_take_L71 at h
  refine g_iinc X (pc := 71) 2 [(3, pI (a3 + (1 : Int32))), (1, pR a1), (2, pI a2)] rfl (iinc_e (by decide)) (lt_n hn (by decide)) rfl dX16_take_71 ?_
  refine g_goto X (pc := 74) (tgt := 2) dX16_take_74 (by decide) ?_
  refine g_sub [1, 2, 0] [(1, pR a1), (2, pI a2), (3, pI (a3 + (1 : Int32)))] rfl ?_
  exact hk2 a1 a2 (a3 + (1 : Int32)) M h
theorem wX16_take_L51 {x : GX} {n0 sl0 : Nat} (X : Cx x cX16_take RX16 none n0 sl0 2 40) {out : Mm} (hE : Ends x n0 sl0 none out) (hn : xn x = 5) (fu : Nat) (k2 : Option Nat → Int32 → Int32 → Mm → Option (Mm)) (hk2 : ∀ (b1 : Option Nat) (b2 : Int32) (b3 : Int32)  (M : Mm), k2 b1 b2 b3 M = some out → Gw x M 2 [(1, pR b1), (2, pI b2), (3, pI b3)] []) (a1 : Option Nat) (a2 : Int32) (a3 : Int32) (a4 : Int32) (s0 : Option Nat) (s1 : Int32) (s2 : Int32) (M : Mm) (h : fX16_take_L51 fu k2 a1 a2 a3 a4 s0 s1 s2 M = some out) : Gw x M 51 [(1, pR a1), (2, pI a2), (3, pI a3), (4, pI a4)] [pI s2, pI s1, pR s0] := by
  unfold fX16_take_L51 at h
  obtain ⟨M1, eM1, h⟩ := bd h
  refine g_zastore X (pc := 51) eM1 dX16_take_51 ?_
  refine g_iload X (pc := 52) 3 rfl dX16_take_52 ?_
  refine g_if_eq X (pc := 54) (tgt := 71) dX16_take_54 (by decide) (fun hc => ?_) (fun hc => ?_)
  · have h := (if_pos hc).symm.trans h
    refine g_sub [0, 1, 2] [(1, pR a1), (2, pI a2), (3, pI a3)] rfl ?_
    exact wX16_take_L71 X hE hn fu k2 hk2 a1 a2 a3 M1 h
  · have h := (if_neg hc).symm.trans h
    refine g_aload_n X (pc := 57) 0 rfl rfl dX16_take_57 ?_
    obtain ⟨v2, ev2, h⟩ := bd h
    refine g_getR X (pc := 58) fk_12_32 rfl rfl ev2 tb_1618 dX16_take_58 ?_
    refine g_iload_n X (pc := 61) 2 rfl rfl dX16_take_61 ?_
    refine g_aload_n X (pc := 62) 0 rfl rfl dX16_take_62 ?_
    obtain ⟨v3, ev3, h⟩ := bd h
    refine g_getR X (pc := 63) fk_12_32 rfl rfl ev3 tb_1618 dX16_take_63 ?_
    refine g_iload_n X (pc := 66) 2 rfl rfl dX16_take_66 ?_
    refine g_iload_n X (pc := 67) 1 rfl rfl dX16_take_67 ?_
    refine g_iadd X (pc := 68) dX16_take_68 ?_
    obtain ⟨v4, ev4, h⟩ := bd h
    refine g_baload X (pc := 69) ev4 dX16_take_69 ?_
    obtain ⟨M5, eM5, h⟩ := bd h
    refine g_bastore X (pc := 70) eM5 dX16_take_70 ?_
    refine g_sub [0, 1, 2] [(1, pR a1), (2, pI a2), (3, pI a3)] rfl ?_
    exact wX16_take_L71 X hE hn fu k2 hk2 a1 a2 a3 M5 h
theorem wX16_take_L50 {x : GX} {n0 sl0 : Nat} (X : Cx x cX16_take RX16 none n0 sl0 2 40) {out : Mm} (hE : Ends x n0 sl0 none out) (hn : xn x = 5) (fu : Nat) (k2 : Option Nat → Int32 → Int32 → Mm → Option (Mm)) (hk2 : ∀ (b1 : Option Nat) (b2 : Int32) (b3 : Int32)  (M : Mm), k2 b1 b2 b3 M = some out → Gw x M 2 [(1, pR b1), (2, pI b2), (3, pI b3)] []) (a1 : Option Nat) (a2 : Int32) (a3 : Int32) (a4 : Int32) (s0 : Option Nat) (s1 : Int32) (M : Mm) (h : fX16_take_L50 fu k2 a1 a2 a3 a4 s0 s1 M = some out) : Gw x M 50 [(1, pR a1), (2, pI a2), (3, pI a3), (4, pI a4)] [pI s1, pR s0] := by
  unfold fX16_take_L50 at h
  refine g_iconst X (pc := 50) (v := 0) dX16_take_50 (by decide) ?_
  exact wX16_take_L51 X hE hn fu k2 hk2 a1 a2 a3 a4 s0 s1 (0 : Int32) M h
theorem wX16_take_L23 {x : GX} {n0 sl0 : Nat} (X : Cx x cX16_take RX16 none n0 sl0 2 40) {out : Mm} (hE : Ends x n0 sl0 none out) (hn : xn x = 5) (fu : Nat) (k2 : Option Nat → Int32 → Int32 → Mm → Option (Mm)) (hk2 : ∀ (b1 : Option Nat) (b2 : Int32) (b3 : Int32)  (M : Mm), k2 b1 b2 b3 M = some out → Gw x M 2 [(1, pR b1), (2, pI b2), (3, pI b3)] []) (a1 : Option Nat) (a2 : Int32) (a3 : Int32) (s0 : Int32) (M : Mm) (h : fX16_take_L23 fu k2 a1 a2 a3 s0 M = some out) : Gw x M 23 [(1, pR a1), (2, pI a2), (3, pI a3)] [pI s0] := by
  unfold fX16_take_L23 at h
  refine g_istore X (pc := 23) [(4, pI s0), (1, pR a1), (2, pI a2), (3, pI a3)] (lt_n hn (by decide)) rfl dX16_take_23 ?_
  refine g_aload_n X (pc := 25) 1 rfl rfl dX16_take_25 ?_
  obtain ⟨v1, ev1, h⟩ := bd h
  refine g_getR X (pc := 26) fk_12_33 rfl rfl ev1 tb_1620 dX16_take_26 ?_
  refine g_iload_n X (pc := 29) 3 rfl rfl dX16_take_29 ?_
  refine g_iload X (pc := 30) 0 rfl dX16_take_30 ?_
  refine g_if_eq X (pc := 32) (tgt := 50) dX16_take_32 (by decide) (fun hc => ?_) (fun hc => ?_)
  · have h := (if_pos hc).symm.trans h
    refine g_sub [1, 2, 3, 0] [(1, pR a1), (2, pI a2), (3, pI a3), (4, pI s0)] rfl ?_
    exact wX16_take_L50 X hE hn fu k2 hk2 a1 a2 a3 s0 v1 a3 M h
  · have h := (if_neg hc).symm.trans h
    refine g_aload_n X (pc := 35) 1 rfl rfl dX16_take_35 ?_
    obtain ⟨v2, ev2, h⟩ := bd h
    refine g_getR X (pc := 36) fk_12_33 rfl rfl ev2 tb_1620 dX16_take_36 ?_
    refine g_iload_n X (pc := 39) 3 rfl rfl dX16_take_39 ?_
    refine g_iload_n X (pc := 40) 2 rfl rfl dX16_take_40 ?_
    refine g_iadd X (pc := 41) dX16_take_41 ?_
    obtain ⟨v3, ev3, h⟩ := bd h
    refine g_zaload X (pc := 42) ev3 dX16_take_42 ?_
    refine g_if_eq X (pc := 43) (tgt := 50) dX16_take_43 (by decide) (fun hc => ?_) (fun hc => ?_)
    · have h := (if_pos hc).symm.trans h
      refine g_sub [1, 2, 3, 0] [(1, pR a1), (2, pI a2), (3, pI a3), (4, pI s0)] rfl ?_
      exact wX16_take_L50 X hE hn fu k2 hk2 a1 a2 a3 s0 v1 a3 M h
    · have h := (if_neg hc).symm.trans h
      refine g_iconst X (pc := 46) (v := 1) dX16_take_46 (by decide) ?_
      refine g_goto X (pc := 47) (tgt := 51) dX16_take_47 (by decide) ?_
      refine g_sub [1, 2, 3, 0] [(1, pR a1), (2, pI a2), (3, pI a3), (4, pI s0)] rfl ?_
      exact wX16_take_L51 X hE hn fu k2 hk2 a1 a2 a3 s0 v1 a3 (1 : Int32) M h
theorem wX16_take_L2 {x : GX} {n0 sl0 : Nat} (X : Cx x cX16_take RX16 none n0 sl0 2 40) {out : Mm} (hE : Ends x n0 sl0 none out) (hn : xn x = 5) (fu : Nat)   : ∀ (n : Nat) (a1 : Option Nat) (a2 : Int32) (a3 : Int32)  (M : Mm), fX16_take_L2 fu  n a1 a2 a3 M = some out → Gw x M 2 [(1, pR a1), (2, pI a2), (3, pI a3)] [] := by
  intro n
  induction n with
  | zero =>
    intro a1 a2 a3 M h
    have h : (none : Option (Mm)) = some out := h
    cases h
  | succ n ih =>
    intro a1 a2 a3 M h
    rw [fX16_take_L2] at h
    refine g_iload_n X (pc := 2) 2 rfl rfl dX16_take_2 ?_
    refine g_sipush X (pc := 3) (v := 4096) dX16_take_3 (by decide) ?_
    refine g_icmp_ge X (pc := 6) (tgt := 77) dX16_take_6 (by decide) (fun hc => ?_) (fun hc => ?_)
    · have h := (if_pos hc).symm.trans h
      refine g_aload_n X (pc := 77) 0 rfl rfl dX16_take_77 ?_
      refine g_aload_n X (pc := 78) 0 rfl rfl dX16_take_78 ?_
      obtain ⟨v1, ev1, h⟩ := bd h
      refine g_getI X (pc := 79) fk_12_35 rfl rfl ev1 tb_1623 dX16_take_79 ?_
      refine g_iload_n X (pc := 82) 1 rfl rfl dX16_take_82 ?_
      refine g_iadd X (pc := 83) dX16_take_83 ?_
      obtain ⟨M2, eM2, h⟩ := bd h
      refine g_putI X (pc := 84) fk_12_35 rfl rfl rfl eM2 tb_1623 (Or.inl rfl) dX16_take_84 ?_
      refine g_aload_n X (pc := 87) 0 rfl rfl dX16_take_87 ?_
      obtain ⟨q3, eq3, h⟩ := bd h
      obtain ⟨v5, M4, eM4, h⟩ := b2d h
      refine g_callV X (pc := 88) (M' := M4) (ro := some (pI v5)) (c := 12) rfl (by decide) (as := []) (as' := []) (st := []) eq3 (ctX12_open _ _ _ _ _ _ fu q3  M2 _ eM4) tb_2108 tb_2105 tb_2106 tb_2107 tb_9 ⟨rfl, hyX12_open⟩ rfl rfl ⟨by decide, by decide⟩ (Nat.le_of_ble_eq_true rfl) dX16_take_88 ?_
      refine g_aload_n X (pc := 91) 0 rfl rfl dX16_take_91 ?_
      obtain ⟨v6, ev6, h⟩ := bd h
      refine g_getI X (pc := 92) fk_12_37 rfl rfl ev6 tb_1626 dX16_take_92 ?_
      refine g_isub X (pc := 95) dX16_take_95 ?_
      refine g_sipush X (pc := 96) (v := 2048) dX16_take_96 (by decide) ?_
      refine g_icmp_lt X (pc := 99) (tgt := 107) dX16_take_99 (by decide) (fun hc => ?_) (fun hc => ?_)
      · have h := (if_pos hc).symm.trans h
        obtain rfl := Option.some.inj h
        exact g_return X hE dX16_take_107
      · have h := (if_neg hc).symm.trans h
        refine g_aload_n X (pc := 102) 0 rfl rfl dX16_take_102 ?_
        refine g_iconst X (pc := 103) (v := 1) dX16_take_103 (by decide) ?_
        obtain ⟨M7, eM7, h⟩ := bd h
        refine g_putZ X (pc := 104) fk_12_39 rfl rfl rfl eM7 tb_1628 (Or.inl rfl) dX16_take_104 ?_
        obtain rfl := Option.some.inj h
        exact g_return X hE dX16_take_107
    · have h := (if_neg hc).symm.trans h
      refine g_iload_n X (pc := 9) 2 rfl rfl dX16_take_9 ?_
      refine g_iload_n X (pc := 10) 1 rfl rfl dX16_take_10 ?_
      refine g_iadd X (pc := 11) dX16_take_11 ?_
      refine g_sipush X (pc := 12) (v := 4096) dX16_take_12 (by decide) ?_
      refine g_icmp_ge X (pc := 15) (tgt := 22) dX16_take_15 (by decide) (fun hc => ?_) (fun hc => ?_)
      · have h := (if_pos hc).symm.trans h
        refine g_iconst X (pc := 22) (v := 0) dX16_take_22 (by decide) ?_
        exact wX16_take_L23 X hE hn fu (fun b1 b2 b3 M => fX16_take_L2 fu  n b1 b2 b3 M) ih a1 a2 a3 (0 : Int32) M h
      · have h := (if_neg hc).symm.trans h
        refine g_iconst X (pc := 18) (v := 1) dX16_take_18 (by decide) ?_
        refine g_goto X (pc := 19) (tgt := 23) dX16_take_19 (by decide) ?_
        exact wX16_take_L23 X hE hn fu (fun b1 b2 b3 M => fX16_take_L2 fu  n b1 b2 b3 M) ih a1 a2 a3 (1 : Int32) M h
theorem wX16_take {x : GX} {n0 sl0 : Nat} (X : Cx x cX16_take RX16 none n0 sl0 2 40) {out : Mm} (hE : Ends x n0 sl0 none out) (hn : xn x = 5) (fu : Nat)   (a0 : Nat) (a1 : Option Nat) (a2 : Int32)  (M : Mm) (h : fX16_take fu  a0 a1 a2 M = some out) : Gw x M 0 [(0, pR (some a0)), (1, pR a1), (2, pI a2)] [] := by
  unfold fX16_take at h
  refine g_iconst X (pc := 0) (v := 0) dX16_take_0 (by decide) ?_
  refine g_istore_n X (pc := 1) [(3, pI (0 : Int32)), (0, pR (some a0)), (1, pR a1), (2, pI a2)] rfl (lt_n hn (by decide)) rfl dX16_take_1 ?_
  refine g_sub [2, 3, 0] [(1, pR a1), (2, pI a2), (3, pI (0 : Int32))] rfl ?_
  exact wX16_take_L2 X hE hn fu   fu a1 a2 (0 : Int32) M h
theorem hyX16_take : yX16_take.cls ≠ "java/lang/invoke/MethodHandle" ∧ yX16_take.cls ≠ "java/lang/invoke/VarHandle" ∧ (parseMethodDescriptor yX16_take.desc).map (fun d => d.parameters.length) = some 2 := ⟨by decide +kernel, by decide +kernel, by decide +kernel⟩
theorem ctX16_take (l : Launch) (E : Nat → Nat) (D : va_G) (dA : Nat → ClassId) (lo : Nat) (H0 : Heap) (fu : Nat) (a0 : Nat) (a1 : Option Nat) (a2 : Int32) (M : Mm) (out : Mm) (h : fX16_take fu a0 a1 a2 M = some out) : Ct l E D dA lo H0 yX16_take cX16_take 5 none 2 40 [pR (some a0), pR a1, pI a2] M none out := by
  refine ct_of (by decide +kernel) (Nat.le_of_ble_eq_true rfl) ?_
  intro x hl he hd ha ho hh hn hin X hE
  exact wX16_take X hE hn fu a0 a1 a2 M h
/-! WebHostModel.byteAt(LWebHostModel$Connection;I)I -/
def fX16_byteAt (fu : Nat)  (a0 : Option Nat) (a1 : Int32)  (M : Mm) : Option (Int32 × Mm) :=
    (rc M 12 a0).bind fun q1 =>
    b2 (fX12_held fu q1  M) fun v3 M2 =>
    if v3 ≤ a1 then (
    some ((-1 : Int32), M2))
    else (
    (gR M2 12 800 a0).bind fun v4 =>
    (gA M2 100 v4 a1).bind fun v5 =>
    some ((v5 &&& (255 : Int32)), M2))
theorem dX16_byteAt_0 : decode cX16_byteAt 0 = .ok (.iload_n 1, 1) := by decide +kernel
theorem dX16_byteAt_1 : decode cX16_byteAt 1 = .ok (.aload_n 0, 1) := by decide +kernel
theorem dX16_byteAt_2 : decode cX16_byteAt 2 = .ok (.invokevirtual 612, 3) := by decide +kernel
theorem dX16_byteAt_5 : decode cX16_byteAt 5 = .ok (.if_icmp .ge 16, 3) := by decide +kernel
theorem dX16_byteAt_8 : decode cX16_byteAt 8 = .ok (.aload_n 0, 1) := by decide +kernel
theorem dX16_byteAt_9 : decode cX16_byteAt 9 = .ok (.getfield 560, 3) := by decide +kernel
theorem dX16_byteAt_12 : decode cX16_byteAt 12 = .ok (.iload_n 1, 1) := by decide +kernel
theorem dX16_byteAt_13 : decode cX16_byteAt 13 = .ok (.baload, 1) := by decide +kernel
theorem dX16_byteAt_14 : decode cX16_byteAt 14 = .ok (.sipush 255, 3) := by decide +kernel
theorem dX16_byteAt_17 : decode cX16_byteAt 17 = .ok (.iand, 1) := by decide +kernel
theorem dX16_byteAt_18 : decode cX16_byteAt 18 = .ok (.goto 4, 3) := by decide +kernel
theorem dX16_byteAt_21 : decode cX16_byteAt 21 = .ok (.iconst (-1), 1) := by decide +kernel
theorem dX16_byteAt_22 : decode cX16_byteAt 22 = .ok (.ireturn, 1) := by decide +kernel
theorem wX16_byteAt {x : GX} {n0 sl0 : Nat} (X : Cx x cX16_byteAt RX16 (some .int) n0 sl0 1 20) {out : Int32 × Mm} (hE : Ends x n0 sl0 (some (pI out.1)) out.2) (hn : xn x = 2) (fu : Nat)   (a0 : Option Nat) (a1 : Int32)  (M : Mm) (h : fX16_byteAt fu  a0 a1 M = some out) : Gw x M 0 [(0, pR a0), (1, pI a1)] [] := by
  unfold fX16_byteAt at h
  refine g_iload_n X (pc := 0) 1 rfl rfl dX16_byteAt_0 ?_
  refine g_aload_n X (pc := 1) 0 rfl rfl dX16_byteAt_1 ?_
  obtain ⟨q1, eq1, h⟩ := bd h
  obtain ⟨v3, M2, eM2, h⟩ := b2d h
  refine g_callV X (pc := 2) (M' := M2) (ro := some (pI v3)) (c := 12) rfl (by decide) (as := []) (as' := []) (st := [pI a1]) eq1 (ctX12_held _ _ _ _ _ _ fu q1  M _ eM2) tb_2112 tb_2317 tb_2110 tb_2111 tb_9 ⟨rfl, hyX12_held⟩ rfl rfl ⟨by decide, by decide⟩ (Nat.le_of_ble_eq_true rfl) dX16_byteAt_2 ?_
  refine g_icmp_ge X (pc := 5) (tgt := 21) dX16_byteAt_5 (by decide) (fun hc => ?_) (fun hc => ?_)
  · have h := (if_pos hc).symm.trans h
    refine g_iconst X (pc := 21) (v := (-1)) dX16_byteAt_21 (by decide) ?_
    obtain rfl := Option.some.inj h
    exact g_ireturn X hE dX16_byteAt_22
  · have h := (if_neg hc).symm.trans h
    refine g_aload_n X (pc := 8) 0 rfl rfl dX16_byteAt_8 ?_
    obtain ⟨v4, ev4, h⟩ := bd h
    refine g_getR X (pc := 9) fk_12_32 rfl rfl ev4 tb_1618 dX16_byteAt_9 ?_
    refine g_iload_n X (pc := 12) 1 rfl rfl dX16_byteAt_12 ?_
    obtain ⟨v5, ev5, h⟩ := bd h
    refine g_baload X (pc := 13) ev5 dX16_byteAt_13 ?_
    refine g_sipush X (pc := 14) (v := 255) dX16_byteAt_14 (by decide) ?_
    refine g_iand X (pc := 17) dX16_byteAt_17 ?_
    refine g_goto X (pc := 18) (tgt := 22) dX16_byteAt_18 (by decide) ?_
    obtain rfl := Option.some.inj h
    exact g_ireturn X hE dX16_byteAt_22
theorem hyX16_byteAt : yX16_byteAt.cls ≠ "java/lang/invoke/MethodHandle" ∧ yX16_byteAt.cls ≠ "java/lang/invoke/VarHandle" ∧ (parseMethodDescriptor yX16_byteAt.desc).map (fun d => d.parameters.length) = some 2 := ⟨by decide +kernel, by decide +kernel, by decide +kernel⟩
theorem ctX16_byteAt (l : Launch) (E : Nat → Nat) (D : va_G) (dA : Nat → ClassId) (lo : Nat) (H0 : Heap) (fu : Nat) (a0 : Option Nat) (a1 : Int32) (M : Mm) (out : Int32 × Mm) (h : fX16_byteAt fu a0 a1 M = some out) : Ct l E D dA lo H0 yX16_byteAt cX16_byteAt 2 (some .int) 1 20 [pR a0, pI a1] M (some (pI out.1)) out.2 := by
  refine ct_of (by decide +kernel) (Nat.le_of_ble_eq_true rfl) ?_
  intro x hl he hd ha ho hh hn hin X hE
  exact wX16_byteAt X hE hn fu a0 a1 M h
/-! WebHostModel.headBytes(LWebHostModel$Connection;)I -/
def fX16_headBytes_L73 (fu : Nat) (k10 : Option Nat → Int32 → Int32 → Int32 → Mm → Option (Int32 × Mm)) (a1 : Option Nat) (a2 : Int32) (a3 : Int32) (a4 : Int32)  (M : Mm) : Option (Int32 × Mm) :=
    k10 a1 a2 a3 (a4 + (1 : Int32)) M
def fX16_headBytes_L56 (fu : Nat) (k10 : Option Nat → Int32 → Int32 → Int32 → Mm → Option (Int32 × Mm)) (a1 : Option Nat) (a3 : Int32) (a4 : Int32) (s0 : Int32) (M : Mm) : Option (Int32 × Mm) :=
    if s0 = 0 then (
    fX16_headBytes_L73 fu k10 a1 (a4 + (1 : Int32)) a3 a4 M)
    else (
    some ((a4 + (1 : Int32)), M))
def fX16_headBytes_L51 (fu : Nat) (k10 : Option Nat → Int32 → Int32 → Int32 → Mm → Option (Int32 × Mm)) (a1 : Option Nat) (a3 : Int32) (a4 : Int32)  (M : Mm) : Option (Int32 × Mm) :=
    fX16_headBytes_L56 fu k10 a1 a3 a4 (1 : Int32) M
def fX16_headBytes_L55 (fu : Nat) (k10 : Option Nat → Int32 → Int32 → Int32 → Mm → Option (Int32 × Mm)) (a1 : Option Nat) (a3 : Int32) (a4 : Int32)  (M : Mm) : Option (Int32 × Mm) :=
    fX16_headBytes_L56 fu k10 a1 a3 a4 (0 : Int32) M
def fX16_headBytes_L10 (fu : Nat)  : Nat → Option Nat → Int32 → Int32 → Int32 → Mm → Option (Int32 × Mm)
  | 0, _, _, _, _, _ => none
  | n + 1, a1, a2, a3, a4, M =>
    if a3 ≤ a4 then (
    some ((0 : Int32), M))
    else (
    b2 (fX16_byteAt fu  a1 a4 M) fun v2 M1 =>
    if v2 = (10 : Int32) then (
    if a4 = a2 then (
    fX16_headBytes_L51 fu (fun b1 b2 b3 b4 M => fX16_headBytes_L10 fu  n b1 b2 b3 b4 M) a1 a3 a4 M1)
    else (
    if a4 = (a2 + (1 : Int32)) then (
    b2 (fX16_byteAt fu  a1 a2 M1) fun v4 M3 =>
    if v4 = (13 : Int32) then (
    fX16_headBytes_L51 fu (fun b1 b2 b3 b4 M => fX16_headBytes_L10 fu  n b1 b2 b3 b4 M) a1 a3 a4 M3)
    else (
    fX16_headBytes_L55 fu (fun b1 b2 b3 b4 M => fX16_headBytes_L10 fu  n b1 b2 b3 b4 M) a1 a3 a4 M3))
    else (
    fX16_headBytes_L55 fu (fun b1 b2 b3 b4 M => fX16_headBytes_L10 fu  n b1 b2 b3 b4 M) a1 a3 a4 M1)))
    else (
    fX16_headBytes_L73 fu (fun b1 b2 b3 b4 M => fX16_headBytes_L10 fu  n b1 b2 b3 b4 M) a1 a2 a3 a4 M1))
def fX16_headBytes (fu : Nat)  (a0 : Nat) (a1 : Option Nat)  (M : Mm) : Option (Int32 × Mm) :=
    (rc M 12 a1).bind fun q1 =>
    b2 (fX12_held fu q1  M) fun v3 M2 =>
    fX16_headBytes_L10 fu  fu a1 (0 : Int32) v3 (0 : Int32) M2
theorem dX16_headBytes_0 : decode cX16_headBytes 0 = .ok (.iconst 0, 1) := by decide +kernel
theorem dX16_headBytes_1 : decode cX16_headBytes 1 = .ok (.istore_n 2, 1) := by decide +kernel
theorem dX16_headBytes_2 : decode cX16_headBytes 2 = .ok (.aload_n 1, 1) := by decide +kernel
theorem dX16_headBytes_3 : decode cX16_headBytes 3 = .ok (.invokevirtual 612, 3) := by decide +kernel
theorem dX16_headBytes_6 : decode cX16_headBytes 6 = .ok (.istore_n 3, 1) := by decide +kernel
theorem dX16_headBytes_7 : decode cX16_headBytes 7 = .ok (.iconst 0, 1) := by decide +kernel
theorem dX16_headBytes_8 : decode cX16_headBytes 8 = .ok (.istore 4, 2) := by decide +kernel
theorem dX16_headBytes_10 : decode cX16_headBytes 10 = .ok (.iload 4, 2) := by decide +kernel
theorem dX16_headBytes_12 : decode cX16_headBytes 12 = .ok (.iload_n 3, 1) := by decide +kernel
theorem dX16_headBytes_13 : decode cX16_headBytes 13 = .ok (.if_icmp .ge 66, 3) := by decide +kernel
theorem dX16_headBytes_16 : decode cX16_headBytes 16 = .ok (.aload_n 1, 1) := by decide +kernel
theorem dX16_headBytes_17 : decode cX16_headBytes 17 = .ok (.iload 4, 2) := by decide +kernel
theorem dX16_headBytes_19 : decode cX16_headBytes 19 = .ok (.invokestatic 621, 3) := by decide +kernel
theorem dX16_headBytes_22 : decode cX16_headBytes 22 = .ok (.bipush 10, 2) := by decide +kernel
theorem dX16_headBytes_24 : decode cX16_headBytes 24 = .ok (.if_icmp .ne 49, 3) := by decide +kernel
theorem dX16_headBytes_27 : decode cX16_headBytes 27 = .ok (.iload 4, 2) := by decide +kernel
theorem dX16_headBytes_29 : decode cX16_headBytes 29 = .ok (.iload_n 2, 1) := by decide +kernel
theorem dX16_headBytes_30 : decode cX16_headBytes 30 = .ok (.if_icmp .eq 21, 3) := by decide +kernel
theorem dX16_headBytes_33 : decode cX16_headBytes 33 = .ok (.iload 4, 2) := by decide +kernel
theorem dX16_headBytes_35 : decode cX16_headBytes 35 = .ok (.iload_n 2, 1) := by decide +kernel
theorem dX16_headBytes_36 : decode cX16_headBytes 36 = .ok (.iconst 1, 1) := by decide +kernel
theorem dX16_headBytes_37 : decode cX16_headBytes 37 = .ok (.iadd, 1) := by decide +kernel
theorem dX16_headBytes_38 : decode cX16_headBytes 38 = .ok (.if_icmp .ne 17, 3) := by decide +kernel
theorem dX16_headBytes_41 : decode cX16_headBytes 41 = .ok (.aload_n 1, 1) := by decide +kernel
theorem dX16_headBytes_42 : decode cX16_headBytes 42 = .ok (.iload_n 2, 1) := by decide +kernel
theorem dX16_headBytes_43 : decode cX16_headBytes 43 = .ok (.invokestatic 621, 3) := by decide +kernel
theorem dX16_headBytes_46 : decode cX16_headBytes 46 = .ok (.bipush 13, 2) := by decide +kernel
theorem dX16_headBytes_48 : decode cX16_headBytes 48 = .ok (.if_icmp .ne 7, 3) := by decide +kernel
theorem dX16_headBytes_51 : decode cX16_headBytes 51 = .ok (.iconst 1, 1) := by decide +kernel
theorem dX16_headBytes_52 : decode cX16_headBytes 52 = .ok (.goto 4, 3) := by decide +kernel
theorem dX16_headBytes_55 : decode cX16_headBytes 55 = .ok (.iconst 0, 1) := by decide +kernel
theorem dX16_headBytes_56 : decode cX16_headBytes 56 = .ok (.istore 5, 2) := by decide +kernel
theorem dX16_headBytes_58 : decode cX16_headBytes 58 = .ok (.iload 5, 2) := by decide +kernel
theorem dX16_headBytes_60 : decode cX16_headBytes 60 = .ok (.ifCond .eq 8, 3) := by decide +kernel
theorem dX16_headBytes_63 : decode cX16_headBytes 63 = .ok (.iload 4, 2) := by decide +kernel
theorem dX16_headBytes_65 : decode cX16_headBytes 65 = .ok (.iconst 1, 1) := by decide +kernel
theorem dX16_headBytes_66 : decode cX16_headBytes 66 = .ok (.iadd, 1) := by decide +kernel
theorem dX16_headBytes_67 : decode cX16_headBytes 67 = .ok (.ireturn, 1) := by decide +kernel
theorem dX16_headBytes_68 : decode cX16_headBytes 68 = .ok (.iload 4, 2) := by decide +kernel
theorem dX16_headBytes_70 : decode cX16_headBytes 70 = .ok (.iconst 1, 1) := by decide +kernel
theorem dX16_headBytes_71 : decode cX16_headBytes 71 = .ok (.iadd, 1) := by decide +kernel
theorem dX16_headBytes_72 : decode cX16_headBytes 72 = .ok (.istore_n 2, 1) := by decide +kernel
theorem dX16_headBytes_73 : decode cX16_headBytes 73 = .ok (.iinc 4 1, 3) := by decide +kernel
theorem dX16_headBytes_76 : decode cX16_headBytes 76 = .ok (.goto (-66), 3) := by decide +kernel
theorem dX16_headBytes_79 : decode cX16_headBytes 79 = .ok (.iconst 0, 1) := by decide +kernel
theorem dX16_headBytes_80 : decode cX16_headBytes 80 = .ok (.ireturn, 1) := by decide +kernel
theorem wX16_headBytes_L73 {x : GX} {n0 sl0 : Nat} (X : Cx x cX16_headBytes RX16 (some .int) n0 sl0 2 41) {out : Int32 × Mm} (hE : Ends x n0 sl0 (some (pI out.1)) out.2) (hn : xn x = 6) (fu : Nat) (k10 : Option Nat → Int32 → Int32 → Int32 → Mm → Option (Int32 × Mm)) (hk10 : ∀ (b1 : Option Nat) (b2 : Int32) (b3 : Int32) (b4 : Int32)  (M : Mm), k10 b1 b2 b3 b4 M = some out → Gw x M 10 [(1, pR b1), (2, pI b2), (3, pI b3), (4, pI b4)] []) (a1 : Option Nat) (a2 : Int32) (a3 : Int32) (a4 : Int32)  (M : Mm) (h : fX16_headBytes_L73 fu k10 a1 a2 a3 a4 M = some out) : Gw x M 73 [(1, pR a1), (2, pI a2), (3, pI a3), (4, pI a4)] [] := by
  unfold fX16_headBytes_L73 at h
  refine g_iinc X (pc := 73) 3 [(4, pI (a4 + (1 : Int32))), (1, pR a1), (2, pI a2), (3, pI a3)] rfl (iinc_e (by decide)) (lt_n hn (by decide)) rfl dX16_headBytes_73 ?_
  refine g_goto X (pc := 76) (tgt := 10) dX16_headBytes_76 (by decide) ?_
  refine g_sub [1, 2, 3, 0] [(1, pR a1), (2, pI a2), (3, pI a3), (4, pI (a4 + (1 : Int32)))] rfl ?_
  exact hk10 a1 a2 a3 (a4 + (1 : Int32)) M h
theorem wX16_headBytes_L56 {x : GX} {n0 sl0 : Nat} (X : Cx x cX16_headBytes RX16 (some .int) n0 sl0 2 41) {out : Int32 × Mm} (hE : Ends x n0 sl0 (some (pI out.1)) out.2) (hn : xn x = 6) (fu : Nat) (k10 : Option Nat → Int32 → Int32 → Int32 → Mm → Option (Int32 × Mm)) (hk10 : ∀ (b1 : Option Nat) (b2 : Int32) (b3 : Int32) (b4 : Int32)  (M : Mm), k10 b1 b2 b3 b4 M = some out → Gw x M 10 [(1, pR b1), (2, pI b2), (3, pI b3), (4, pI b4)] []) (a1 : Option Nat) (a3 : Int32) (a4 : Int32) (s0 : Int32) (M : Mm) (h : fX16_headBytes_L56 fu k10 a1 a3 a4 s0 M = some out) : Gw x M 56 [(1, pR a1), (3, pI a3), (4, pI a4)] [pI s0] := by
  unfold fX16_headBytes_L56 at h
  refine g_istore X (pc := 56) [(5, pI s0), (1, pR a1), (3, pI a3), (4, pI a4)] (lt_n hn (by decide)) rfl dX16_headBytes_56 ?_
  refine g_iload X (pc := 58) 0 rfl dX16_headBytes_58 ?_
  refine g_if_eq X (pc := 60) (tgt := 68) dX16_headBytes_60 (by decide) (fun hc => ?_) (fun hc => ?_)
  · have h := (if_pos hc).symm.trans h
    refine g_iload X (pc := 68) 3 rfl dX16_headBytes_68 ?_
    refine g_iconst X (pc := 70) (v := 1) dX16_headBytes_70 (by decide) ?_
    refine g_iadd X (pc := 71) dX16_headBytes_71 ?_
    refine g_istore_n X (pc := 72) [(2, pI (a4 + (1 : Int32))), (5, pI s0), (1, pR a1), (3, pI a3), (4, pI a4)] rfl (lt_n hn (by decide)) rfl dX16_headBytes_72 ?_
    refine g_sub [2, 0, 3, 4] [(1, pR a1), (2, pI (a4 + (1 : Int32))), (3, pI a3), (4, pI a4)] rfl ?_
    exact wX16_headBytes_L73 X hE hn fu k10 hk10 a1 (a4 + (1 : Int32)) a3 a4 M h
  · have h := (if_neg hc).symm.trans h
    refine g_iload X (pc := 63) 3 rfl dX16_headBytes_63 ?_
    refine g_iconst X (pc := 65) (v := 1) dX16_headBytes_65 (by decide) ?_
    refine g_iadd X (pc := 66) dX16_headBytes_66 ?_
    obtain rfl := Option.some.inj h
    exact g_ireturn X hE dX16_headBytes_67
theorem wX16_headBytes_L51 {x : GX} {n0 sl0 : Nat} (X : Cx x cX16_headBytes RX16 (some .int) n0 sl0 2 41) {out : Int32 × Mm} (hE : Ends x n0 sl0 (some (pI out.1)) out.2) (hn : xn x = 6) (fu : Nat) (k10 : Option Nat → Int32 → Int32 → Int32 → Mm → Option (Int32 × Mm)) (hk10 : ∀ (b1 : Option Nat) (b2 : Int32) (b3 : Int32) (b4 : Int32)  (M : Mm), k10 b1 b2 b3 b4 M = some out → Gw x M 10 [(1, pR b1), (2, pI b2), (3, pI b3), (4, pI b4)] []) (a1 : Option Nat) (a3 : Int32) (a4 : Int32)  (M : Mm) (h : fX16_headBytes_L51 fu k10 a1 a3 a4 M = some out) : Gw x M 51 [(1, pR a1), (3, pI a3), (4, pI a4)] [] := by
  unfold fX16_headBytes_L51 at h
  refine g_iconst X (pc := 51) (v := 1) dX16_headBytes_51 (by decide) ?_
  refine g_goto X (pc := 52) (tgt := 56) dX16_headBytes_52 (by decide) ?_
  exact wX16_headBytes_L56 X hE hn fu k10 hk10 a1 a3 a4 (1 : Int32) M h
theorem wX16_headBytes_L55 {x : GX} {n0 sl0 : Nat} (X : Cx x cX16_headBytes RX16 (some .int) n0 sl0 2 41) {out : Int32 × Mm} (hE : Ends x n0 sl0 (some (pI out.1)) out.2) (hn : xn x = 6) (fu : Nat) (k10 : Option Nat → Int32 → Int32 → Int32 → Mm → Option (Int32 × Mm)) (hk10 : ∀ (b1 : Option Nat) (b2 : Int32) (b3 : Int32) (b4 : Int32)  (M : Mm), k10 b1 b2 b3 b4 M = some out → Gw x M 10 [(1, pR b1), (2, pI b2), (3, pI b3), (4, pI b4)] []) (a1 : Option Nat) (a3 : Int32) (a4 : Int32)  (M : Mm) (h : fX16_headBytes_L55 fu k10 a1 a3 a4 M = some out) : Gw x M 55 [(1, pR a1), (3, pI a3), (4, pI a4)] [] := by
  unfold fX16_headBytes_L55 at h
  refine g_iconst X (pc := 55) (v := 0) dX16_headBytes_55 (by decide) ?_
  exact wX16_headBytes_L56 X hE hn fu k10 hk10 a1 a3 a4 (0 : Int32) M h
theorem wX16_headBytes_L10 {x : GX} {n0 sl0 : Nat} (X : Cx x cX16_headBytes RX16 (some .int) n0 sl0 2 41) {out : Int32 × Mm} (hE : Ends x n0 sl0 (some (pI out.1)) out.2) (hn : xn x = 6) (fu : Nat)   : ∀ (n : Nat) (a1 : Option Nat) (a2 : Int32) (a3 : Int32) (a4 : Int32)  (M : Mm), fX16_headBytes_L10 fu  n a1 a2 a3 a4 M = some out → Gw x M 10 [(1, pR a1), (2, pI a2), (3, pI a3), (4, pI a4)] [] := by
  intro n
  induction n with
  | zero =>
    intro a1 a2 a3 a4 M h
    have h : (none : Option (Int32 × Mm)) = some out := h
    cases h
  | succ n ih =>
    intro a1 a2 a3 a4 M h
    rw [fX16_headBytes_L10] at h
    refine g_iload X (pc := 10) 3 rfl dX16_headBytes_10 ?_
    refine g_iload_n X (pc := 12) 2 rfl rfl dX16_headBytes_12 ?_
    refine g_icmp_ge X (pc := 13) (tgt := 79) dX16_headBytes_13 (by decide) (fun hc => ?_) (fun hc => ?_)
    · have h := (if_pos hc).symm.trans h
      refine g_iconst X (pc := 79) (v := 0) dX16_headBytes_79 (by decide) ?_
      obtain rfl := Option.some.inj h
      exact g_ireturn X hE dX16_headBytes_80
    · have h := (if_neg hc).symm.trans h
      refine g_aload_n X (pc := 16) 0 rfl rfl dX16_headBytes_16 ?_
      refine g_iload X (pc := 17) 3 rfl dX16_headBytes_17 ?_
      obtain ⟨v2, M1, eM1, h⟩ := b2d h
      refine g_callS X (pc := 19) (M' := M1) (ro := some (pI v2)) (as := [pR a1, pI a4]) (as' := [pI a4, pR a1]) (st := []) (ctX16_byteAt _ _ _ _ _ _ fu  a1 a4 M _ eM1) tb_2328 tb_2326 tb_2327 tb_8 hyX16_byteAt rfl rfl ⟨by decide, by decide⟩ (Nat.le_of_ble_eq_true rfl) dX16_headBytes_19 ?_
      refine g_bipush X (pc := 22) (v := 10) dX16_headBytes_22 (by decide) ?_
      refine g_icmp_ne X (pc := 24) (tgt := 73) dX16_headBytes_24 (by decide) (fun hc => ?_) (fun hc => ?_)
      · have h := (if_neg hc).symm.trans h
        exact wX16_headBytes_L73 X hE hn fu (fun b1 b2 b3 b4 M => fX16_headBytes_L10 fu  n b1 b2 b3 b4 M) ih a1 a2 a3 a4 M1 h
      · have h := (if_pos hc).symm.trans h
        refine g_iload X (pc := 27) 3 rfl dX16_headBytes_27 ?_
        refine g_iload_n X (pc := 29) 1 rfl rfl dX16_headBytes_29 ?_
        refine g_icmp_eq X (pc := 30) (tgt := 51) dX16_headBytes_30 (by decide) (fun hc => ?_) (fun hc => ?_)
        · have h := (if_pos hc).symm.trans h
          refine g_sub [0, 2, 3] [(1, pR a1), (3, pI a3), (4, pI a4)] rfl ?_
          exact wX16_headBytes_L51 X hE hn fu (fun b1 b2 b3 b4 M => fX16_headBytes_L10 fu  n b1 b2 b3 b4 M) ih a1 a3 a4 M1 h
        · have h := (if_neg hc).symm.trans h
          refine g_iload X (pc := 33) 3 rfl dX16_headBytes_33 ?_
          refine g_iload_n X (pc := 35) 1 rfl rfl dX16_headBytes_35 ?_
          refine g_iconst X (pc := 36) (v := 1) dX16_headBytes_36 (by decide) ?_
          refine g_iadd X (pc := 37) dX16_headBytes_37 ?_
          refine g_icmp_ne X (pc := 38) (tgt := 55) dX16_headBytes_38 (by decide) (fun hc => ?_) (fun hc => ?_)
          · have h := (if_neg hc).symm.trans h
            refine g_sub [0, 2, 3] [(1, pR a1), (3, pI a3), (4, pI a4)] rfl ?_
            exact wX16_headBytes_L55 X hE hn fu (fun b1 b2 b3 b4 M => fX16_headBytes_L10 fu  n b1 b2 b3 b4 M) ih a1 a3 a4 M1 h
          · have h := (if_pos hc).symm.trans h
            refine g_aload_n X (pc := 41) 0 rfl rfl dX16_headBytes_41 ?_
            refine g_iload_n X (pc := 42) 1 rfl rfl dX16_headBytes_42 ?_
            obtain ⟨v4, M3, eM3, h⟩ := b2d h
            refine g_callS X (pc := 43) (M' := M3) (ro := some (pI v4)) (as := [pR a1, pI a2]) (as' := [pI a2, pR a1]) (st := []) (ctX16_byteAt _ _ _ _ _ _ fu  a1 a2 M1 _ eM3) tb_2328 tb_2326 tb_2327 tb_8 hyX16_byteAt rfl rfl ⟨by decide, by decide⟩ (Nat.le_of_ble_eq_true rfl) dX16_headBytes_43 ?_
            refine g_bipush X (pc := 46) (v := 13) dX16_headBytes_46 (by decide) ?_
            refine g_icmp_ne X (pc := 48) (tgt := 55) dX16_headBytes_48 (by decide) (fun hc => ?_) (fun hc => ?_)
            · have h := (if_neg hc).symm.trans h
              refine g_sub [0, 2, 3] [(1, pR a1), (3, pI a3), (4, pI a4)] rfl ?_
              exact wX16_headBytes_L55 X hE hn fu (fun b1 b2 b3 b4 M => fX16_headBytes_L10 fu  n b1 b2 b3 b4 M) ih a1 a3 a4 M3 h
            · have h := (if_pos hc).symm.trans h
              refine g_sub [0, 2, 3] [(1, pR a1), (3, pI a3), (4, pI a4)] rfl ?_
              exact wX16_headBytes_L51 X hE hn fu (fun b1 b2 b3 b4 M => fX16_headBytes_L10 fu  n b1 b2 b3 b4 M) ih a1 a3 a4 M3 h
theorem wX16_headBytes {x : GX} {n0 sl0 : Nat} (X : Cx x cX16_headBytes RX16 (some .int) n0 sl0 2 41) {out : Int32 × Mm} (hE : Ends x n0 sl0 (some (pI out.1)) out.2) (hn : xn x = 6) (fu : Nat)   (a0 : Nat) (a1 : Option Nat)  (M : Mm) (h : fX16_headBytes fu  a0 a1 M = some out) : Gw x M 0 [(0, pR (some a0)), (1, pR a1)] [] := by
  unfold fX16_headBytes at h
  refine g_iconst X (pc := 0) (v := 0) dX16_headBytes_0 (by decide) ?_
  refine g_istore_n X (pc := 1) [(2, pI (0 : Int32)), (0, pR (some a0)), (1, pR a1)] rfl (lt_n hn (by decide)) rfl dX16_headBytes_1 ?_
  refine g_aload_n X (pc := 2) 2 rfl rfl dX16_headBytes_2 ?_
  obtain ⟨q1, eq1, h⟩ := bd h
  obtain ⟨v3, M2, eM2, h⟩ := b2d h
  refine g_callV X (pc := 3) (M' := M2) (ro := some (pI v3)) (c := 12) rfl (by decide) (as := []) (as' := []) (st := []) eq1 (ctX12_held _ _ _ _ _ _ fu q1  M _ eM2) tb_2112 tb_2317 tb_2110 tb_2111 tb_9 ⟨rfl, hyX12_held⟩ rfl rfl ⟨by decide, by decide⟩ (Nat.le_of_ble_eq_true rfl) dX16_headBytes_3 ?_
  refine g_istore_n X (pc := 6) [(3, pI v3), (2, pI (0 : Int32)), (0, pR (some a0)), (1, pR a1)] rfl (lt_n hn (by decide)) rfl dX16_headBytes_6 ?_
  refine g_iconst X (pc := 7) (v := 0) dX16_headBytes_7 (by decide) ?_
  refine g_istore X (pc := 8) [(4, pI (0 : Int32)), (3, pI v3), (2, pI (0 : Int32)), (0, pR (some a0)), (1, pR a1)] (lt_n hn (by decide)) rfl dX16_headBytes_8 ?_
  refine g_sub [4, 2, 1, 0] [(1, pR a1), (2, pI (0 : Int32)), (3, pI v3), (4, pI (0 : Int32))] rfl ?_
  exact wX16_headBytes_L10 X hE hn fu   fu a1 (0 : Int32) v3 (0 : Int32) M2 h
theorem hyX16_headBytes : yX16_headBytes.cls ≠ "java/lang/invoke/MethodHandle" ∧ yX16_headBytes.cls ≠ "java/lang/invoke/VarHandle" ∧ (parseMethodDescriptor yX16_headBytes.desc).map (fun d => d.parameters.length) = some 1 := ⟨by decide +kernel, by decide +kernel, by decide +kernel⟩
theorem ctX16_headBytes (l : Launch) (E : Nat → Nat) (D : va_G) (dA : Nat → ClassId) (lo : Nat) (H0 : Heap) (fu : Nat) (a0 : Nat) (a1 : Option Nat) (M : Mm) (out : Int32 × Mm) (h : fX16_headBytes fu a0 a1 M = some out) : Ct l E D dA lo H0 yX16_headBytes cX16_headBytes 6 (some .int) 2 41 [pR (some a0), pR a1] M (some (pI out.1)) out.2 := by
  refine ct_of (by decide +kernel) (Nat.le_of_ble_eq_true rfl) ?_
  intro x hl he hd ha ho hh hn hin X hE
  exact wX16_headBytes X hE hn fu a0 a1 M h
/-! WebHostModel.lineEnd(I)I -/
def fX16_lineEnd_L2 (fu : Nat)  : Nat → Nat → Int32 → Mm → Option (Int32 × Mm)
  | 0, _, _, _ => none
  | n + 1, a0, a2, M =>
    (gR M 16 1065 (some a0)).bind fun v1 =>
    (gA M 100 v1 a2).bind fun v2 =>
    if v2 = (10 : Int32) then (
    some (a2, M))
    else (
    fX16_lineEnd_L2 fu  n a0 (a2 + (1 : Int32)) M)
def fX16_lineEnd (fu : Nat)  (a0 : Nat) (a1 : Int32)  (M : Mm) : Option (Int32 × Mm) :=
    fX16_lineEnd_L2 fu  fu a0 a1 M
theorem dX16_lineEnd_0 : decode cX16_lineEnd 0 = .ok (.iload_n 1, 1) := by decide +kernel
theorem dX16_lineEnd_1 : decode cX16_lineEnd 1 = .ok (.istore_n 2, 1) := by decide +kernel
theorem dX16_lineEnd_2 : decode cX16_lineEnd 2 = .ok (.aload_n 0, 1) := by decide +kernel
theorem dX16_lineEnd_3 : decode cX16_lineEnd 3 = .ok (.getfield 74, 3) := by decide +kernel
theorem dX16_lineEnd_6 : decode cX16_lineEnd 6 = .ok (.iload_n 2, 1) := by decide +kernel
theorem dX16_lineEnd_7 : decode cX16_lineEnd 7 = .ok (.baload, 1) := by decide +kernel
theorem dX16_lineEnd_8 : decode cX16_lineEnd 8 = .ok (.bipush 10, 2) := by decide +kernel
theorem dX16_lineEnd_10 : decode cX16_lineEnd 10 = .ok (.if_icmp .eq 9, 3) := by decide +kernel
theorem dX16_lineEnd_13 : decode cX16_lineEnd 13 = .ok (.iinc 2 1, 3) := by decide +kernel
theorem dX16_lineEnd_16 : decode cX16_lineEnd 16 = .ok (.goto (-14), 3) := by decide +kernel
theorem dX16_lineEnd_19 : decode cX16_lineEnd 19 = .ok (.iload_n 2, 1) := by decide +kernel
theorem dX16_lineEnd_20 : decode cX16_lineEnd 20 = .ok (.ireturn, 1) := by decide +kernel
theorem wX16_lineEnd_L2 {x : GX} {n0 sl0 : Nat} (X : Cx x cX16_lineEnd RX16 (some .int) n0 sl0 0 0) {out : Int32 × Mm} (hE : Ends x n0 sl0 (some (pI out.1)) out.2) (hn : xn x = 3) (fu : Nat)   : ∀ (n : Nat) (a0 : Nat) (a2 : Int32)  (M : Mm), fX16_lineEnd_L2 fu  n a0 a2 M = some out → Gw x M 2 [(0, pR (some a0)), (2, pI a2)] [] := by
  intro n
  induction n with
  | zero =>
    intro a0 a2 M h
    have h : (none : Option (Int32 × Mm)) = some out := h
    cases h
  | succ n ih =>
    intro a0 a2 M h
    rw [fX16_lineEnd_L2] at h
    refine g_aload_n X (pc := 2) 0 rfl rfl dX16_lineEnd_2 ?_
    obtain ⟨v1, ev1, h⟩ := bd h
    refine g_getR X (pc := 3) fk_16_41 rfl rfl ev1 tb_1855 dX16_lineEnd_3 ?_
    refine g_iload_n X (pc := 6) 1 rfl rfl dX16_lineEnd_6 ?_
    obtain ⟨v2, ev2, h⟩ := bd h
    refine g_baload X (pc := 7) ev2 dX16_lineEnd_7 ?_
    refine g_bipush X (pc := 8) (v := 10) dX16_lineEnd_8 (by decide) ?_
    refine g_icmp_eq X (pc := 10) (tgt := 19) dX16_lineEnd_10 (by decide) (fun hc => ?_) (fun hc => ?_)
    · have h := (if_pos hc).symm.trans h
      refine g_iload_n X (pc := 19) 1 rfl rfl dX16_lineEnd_19 ?_
      obtain rfl := Option.some.inj h
      exact g_ireturn X hE dX16_lineEnd_20
    · have h := (if_neg hc).symm.trans h
      refine g_iinc X (pc := 13) 1 [(2, pI (a2 + (1 : Int32))), (0, pR (some a0))] rfl (iinc_e (by decide)) (lt_n hn (by decide)) rfl dX16_lineEnd_13 ?_
      refine g_goto X (pc := 16) (tgt := 2) dX16_lineEnd_16 (by decide) ?_
      refine g_sub [1, 0] [(0, pR (some a0)), (2, pI (a2 + (1 : Int32)))] rfl ?_
      exact ih a0 (a2 + (1 : Int32)) M h
theorem wX16_lineEnd {x : GX} {n0 sl0 : Nat} (X : Cx x cX16_lineEnd RX16 (some .int) n0 sl0 0 0) {out : Int32 × Mm} (hE : Ends x n0 sl0 (some (pI out.1)) out.2) (hn : xn x = 3) (fu : Nat)   (a0 : Nat) (a1 : Int32)  (M : Mm) (h : fX16_lineEnd fu  a0 a1 M = some out) : Gw x M 0 [(0, pR (some a0)), (1, pI a1)] [] := by
  unfold fX16_lineEnd at h
  refine g_iload_n X (pc := 0) 1 rfl rfl dX16_lineEnd_0 ?_
  refine g_istore_n X (pc := 1) [(2, pI a1), (0, pR (some a0)), (1, pI a1)] rfl (lt_n hn (by decide)) rfl dX16_lineEnd_1 ?_
  refine g_sub [1, 0] [(0, pR (some a0)), (2, pI a1)] rfl ?_
  exact wX16_lineEnd_L2 X hE hn fu   fu a0 a1 M h
theorem hyX16_lineEnd : yX16_lineEnd.cls ≠ "java/lang/invoke/MethodHandle" ∧ yX16_lineEnd.cls ≠ "java/lang/invoke/VarHandle" ∧ (parseMethodDescriptor yX16_lineEnd.desc).map (fun d => d.parameters.length) = some 1 := ⟨by decide +kernel, by decide +kernel, by decide +kernel⟩
theorem ctX16_lineEnd (l : Launch) (E : Nat → Nat) (D : va_G) (dA : Nat → ClassId) (lo : Nat) (H0 : Heap) (fu : Nat) (a0 : Nat) (a1 : Int32) (M : Mm) (out : Int32 × Mm) (h : fX16_lineEnd fu a0 a1 M = some out) : Ct l E D dA lo H0 yX16_lineEnd cX16_lineEnd 3 (some .int) 0 0 [pR (some a0), pI a1] M (some (pI out.1)) out.2 := by
  refine ct_of (by decide +kernel) (Nat.le_of_ble_eq_true rfl) ?_
  intro x hl he hd ha ho hh hn hin X hE
  exact wX16_lineEnd X hE hn fu a0 a1 M h
/-! WebHostModel.shown(II)I -/
def fX16_shown (fu : Nat)  (a0 : Nat) (a1 : Int32) (a2 : Int32)  (M : Mm) : Option (Int32 × Mm) :=
    if a2 ≤ a1 then (
    some (a2, M))
    else (
    (gR M 16 1065 (some a0)).bind fun v1 =>
    (gA M 100 v1 (a2 - (1 : Int32))).bind fun v2 =>
    if v2 = (13 : Int32) then (
    some ((a2 - (1 : Int32)), M))
    else (
    some (a2, M)))
theorem dX16_shown_0 : decode cX16_shown 0 = .ok (.iload_n 2, 1) := by decide +kernel
theorem dX16_shown_1 : decode cX16_shown 1 = .ok (.iload_n 1, 1) := by decide +kernel
theorem dX16_shown_2 : decode cX16_shown 2 = .ok (.if_icmp .le 22, 3) := by decide +kernel
theorem dX16_shown_5 : decode cX16_shown 5 = .ok (.aload_n 0, 1) := by decide +kernel
theorem dX16_shown_6 : decode cX16_shown 6 = .ok (.getfield 74, 3) := by decide +kernel
theorem dX16_shown_9 : decode cX16_shown 9 = .ok (.iload_n 2, 1) := by decide +kernel
theorem dX16_shown_10 : decode cX16_shown 10 = .ok (.iconst 1, 1) := by decide +kernel
theorem dX16_shown_11 : decode cX16_shown 11 = .ok (.isub, 1) := by decide +kernel
theorem dX16_shown_12 : decode cX16_shown 12 = .ok (.baload, 1) := by decide +kernel
theorem dX16_shown_13 : decode cX16_shown 13 = .ok (.bipush 13, 2) := by decide +kernel
theorem dX16_shown_15 : decode cX16_shown 15 = .ok (.if_icmp .ne 9, 3) := by decide +kernel
theorem dX16_shown_18 : decode cX16_shown 18 = .ok (.iload_n 2, 1) := by decide +kernel
theorem dX16_shown_19 : decode cX16_shown 19 = .ok (.iconst 1, 1) := by decide +kernel
theorem dX16_shown_20 : decode cX16_shown 20 = .ok (.isub, 1) := by decide +kernel
theorem dX16_shown_21 : decode cX16_shown 21 = .ok (.goto 4, 3) := by decide +kernel
theorem dX16_shown_24 : decode cX16_shown 24 = .ok (.iload_n 2, 1) := by decide +kernel
theorem dX16_shown_25 : decode cX16_shown 25 = .ok (.ireturn, 1) := by decide +kernel
theorem wX16_shown {x : GX} {n0 sl0 : Nat} (X : Cx x cX16_shown RX16 (some .int) n0 sl0 0 0) {out : Int32 × Mm} (hE : Ends x n0 sl0 (some (pI out.1)) out.2) (hn : xn x = 3) (fu : Nat)   (a0 : Nat) (a1 : Int32) (a2 : Int32)  (M : Mm) (h : fX16_shown fu  a0 a1 a2 M = some out) : Gw x M 0 [(0, pR (some a0)), (1, pI a1), (2, pI a2)] [] := by
  unfold fX16_shown at h
  refine g_iload_n X (pc := 0) 2 rfl rfl dX16_shown_0 ?_
  refine g_iload_n X (pc := 1) 1 rfl rfl dX16_shown_1 ?_
  refine g_icmp_le X (pc := 2) (tgt := 24) dX16_shown_2 (by decide) (fun hc => ?_) (fun hc => ?_)
  · have h := (if_pos hc).symm.trans h
    refine g_iload_n X (pc := 24) 2 rfl rfl dX16_shown_24 ?_
    obtain rfl := Option.some.inj h
    exact g_ireturn X hE dX16_shown_25
  · have h := (if_neg hc).symm.trans h
    refine g_aload_n X (pc := 5) 0 rfl rfl dX16_shown_5 ?_
    obtain ⟨v1, ev1, h⟩ := bd h
    refine g_getR X (pc := 6) fk_16_41 rfl rfl ev1 tb_1855 dX16_shown_6 ?_
    refine g_iload_n X (pc := 9) 2 rfl rfl dX16_shown_9 ?_
    refine g_iconst X (pc := 10) (v := 1) dX16_shown_10 (by decide) ?_
    refine g_isub X (pc := 11) dX16_shown_11 ?_
    obtain ⟨v2, ev2, h⟩ := bd h
    refine g_baload X (pc := 12) ev2 dX16_shown_12 ?_
    refine g_bipush X (pc := 13) (v := 13) dX16_shown_13 (by decide) ?_
    refine g_icmp_ne X (pc := 15) (tgt := 24) dX16_shown_15 (by decide) (fun hc => ?_) (fun hc => ?_)
    · have h := (if_neg hc).symm.trans h
      refine g_iload_n X (pc := 24) 2 rfl rfl dX16_shown_24 ?_
      obtain rfl := Option.some.inj h
      exact g_ireturn X hE dX16_shown_25
    · have h := (if_pos hc).symm.trans h
      refine g_iload_n X (pc := 18) 2 rfl rfl dX16_shown_18 ?_
      refine g_iconst X (pc := 19) (v := 1) dX16_shown_19 (by decide) ?_
      refine g_isub X (pc := 20) dX16_shown_20 ?_
      refine g_goto X (pc := 21) (tgt := 25) dX16_shown_21 (by decide) ?_
      obtain rfl := Option.some.inj h
      exact g_ireturn X hE dX16_shown_25
theorem hyX16_shown : yX16_shown.cls ≠ "java/lang/invoke/MethodHandle" ∧ yX16_shown.cls ≠ "java/lang/invoke/VarHandle" ∧ (parseMethodDescriptor yX16_shown.desc).map (fun d => d.parameters.length) = some 2 := ⟨by decide +kernel, by decide +kernel, by decide +kernel⟩
theorem ctX16_shown (l : Launch) (E : Nat → Nat) (D : va_G) (dA : Nat → ClassId) (lo : Nat) (H0 : Heap) (fu : Nat) (a0 : Nat) (a1 : Int32) (a2 : Int32) (M : Mm) (out : Int32 × Mm) (h : fX16_shown fu a0 a1 a2 M = some out) : Ct l E D dA lo H0 yX16_shown cX16_shown 3 (some .int) 0 0 [pR (some a0), pI a1, pI a2] M (some (pI out.1)) out.2 := by
  refine ct_of (by decide +kernel) (Nat.le_of_ble_eq_true rfl) ?_
  intro x hl he hd ha ho hh hn hin X hE
  exact wX16_shown X hE hn fu a0 a1 a2 M h
/-! WebHostModel.headAt(I)I -/
def fX16_headAt (fu : Nat)  (a0 : Nat) (a1 : Int32)  (M : Mm) : Option (Int32 × Mm) :=
    (gR M 16 1065 (some a0)).bind fun v1 =>
    (gA M 100 v1 a1).bind fun v2 =>
    some ((v2 &&& (255 : Int32)), M)
theorem dX16_headAt_0 : decode cX16_headAt 0 = .ok (.aload_n 0, 1) := by decide +kernel
theorem dX16_headAt_1 : decode cX16_headAt 1 = .ok (.getfield 74, 3) := by decide +kernel
theorem dX16_headAt_4 : decode cX16_headAt 4 = .ok (.iload_n 1, 1) := by decide +kernel
theorem dX16_headAt_5 : decode cX16_headAt 5 = .ok (.baload, 1) := by decide +kernel
theorem dX16_headAt_6 : decode cX16_headAt 6 = .ok (.sipush 255, 3) := by decide +kernel
theorem dX16_headAt_9 : decode cX16_headAt 9 = .ok (.iand, 1) := by decide +kernel
theorem dX16_headAt_10 : decode cX16_headAt 10 = .ok (.ireturn, 1) := by decide +kernel
theorem wX16_headAt {x : GX} {n0 sl0 : Nat} (X : Cx x cX16_headAt RX16 (some .int) n0 sl0 0 0) {out : Int32 × Mm} (hE : Ends x n0 sl0 (some (pI out.1)) out.2) (hn : xn x = 2) (fu : Nat)   (a0 : Nat) (a1 : Int32)  (M : Mm) (h : fX16_headAt fu  a0 a1 M = some out) : Gw x M 0 [(0, pR (some a0)), (1, pI a1)] [] := by
  unfold fX16_headAt at h
  refine g_aload_n X (pc := 0) 0 rfl rfl dX16_headAt_0 ?_
  obtain ⟨v1, ev1, h⟩ := bd h
  refine g_getR X (pc := 1) fk_16_41 rfl rfl ev1 tb_1855 dX16_headAt_1 ?_
  refine g_iload_n X (pc := 4) 1 rfl rfl dX16_headAt_4 ?_
  obtain ⟨v2, ev2, h⟩ := bd h
  refine g_baload X (pc := 5) ev2 dX16_headAt_5 ?_
  refine g_sipush X (pc := 6) (v := 255) dX16_headAt_6 (by decide) ?_
  refine g_iand X (pc := 9) dX16_headAt_9 ?_
  obtain rfl := Option.some.inj h
  exact g_ireturn X hE dX16_headAt_10
theorem hyX16_headAt : yX16_headAt.cls ≠ "java/lang/invoke/MethodHandle" ∧ yX16_headAt.cls ≠ "java/lang/invoke/VarHandle" ∧ (parseMethodDescriptor yX16_headAt.desc).map (fun d => d.parameters.length) = some 1 := ⟨by decide +kernel, by decide +kernel, by decide +kernel⟩
theorem ctX16_headAt (l : Launch) (E : Nat → Nat) (D : va_G) (dA : Nat → ClassId) (lo : Nat) (H0 : Heap) (fu : Nat) (a0 : Nat) (a1 : Int32) (M : Mm) (out : Int32 × Mm) (h : fX16_headAt fu a0 a1 M = some out) : Ct l E D dA lo H0 yX16_headAt cX16_headAt 2 (some .int) 0 0 [pR (some a0), pI a1] M (some (pI out.1)) out.2 := by
  refine ct_of (by decide +kernel) (Nat.le_of_ble_eq_true rfl) ?_
  intro x hl he hd ha ho hh hn hin X hE
  exact wX16_headAt X hE hn fu a0 a1 M h
/-! WebHostModel.says(IILjava/lang/String;)Z -/
def fX16_says_L15 (fu : Nat)  : Nat → Nat → Int32 → Int32 → Option Nat → Int32 → Mm → Option (Int32 × Mm)
  | 0, _, _, _, _, _, _ => none
  | n + 1, a0, a1, a2, a3, a4, M =>
    if a2 ≤ a4 then (
    rN .boolean (1 : Int32) M)
    else (
    (rc M 16 (some a0)).bind fun q1 =>
    b2 (fX16_headAt fu q1 a4 M) fun v3 M2 =>
    (rcS a3).bind fun q4 =>
    b2 (fJ0_charAt_5068e fu q4 (a4 - a1) M2) fun v6 M5 =>
    if v3 = v6 then (
    fX16_says_L15 fu  n a0 a1 a2 a3 (a4 + (1 : Int32)) M5)
    else (
    rN .boolean (0 : Int32) M5))
def fX16_says (fu : Nat)  (a0 : Nat) (a1 : Int32) (a2 : Int32) (a3 : Option Nat)  (M : Mm) : Option (Int32 × Mm) :=
    (rcS a3).bind fun q1 =>
    b2 (fJ0_length_8abf5 fu q1  M) fun v3 M2 =>
    if (a2 - a1) = v3 then (
    fX16_says_L15 fu  fu a0 a1 a2 a3 a1 M2)
    else (
    rN .boolean (0 : Int32) M2)
theorem dX16_says_0 : decode cX16_says 0 = .ok (.iload_n 2, 1) := by decide +kernel
theorem dX16_says_1 : decode cX16_says 1 = .ok (.iload_n 1, 1) := by decide +kernel
theorem dX16_says_2 : decode cX16_says 2 = .ok (.isub, 1) := by decide +kernel
theorem dX16_says_3 : decode cX16_says 3 = .ok (.aload_n 3, 1) := by decide +kernel
theorem dX16_says_4 : decode cX16_says 4 = .ok (.invokevirtual 717, 3) := by decide +kernel
theorem dX16_says_7 : decode cX16_says 7 = .ok (.if_icmp .eq 5, 3) := by decide +kernel
theorem dX16_says_10 : decode cX16_says 10 = .ok (.iconst 0, 1) := by decide +kernel
theorem dX16_says_11 : decode cX16_says 11 = .ok (.ireturn, 1) := by decide +kernel
theorem dX16_says_12 : decode cX16_says 12 = .ok (.iload_n 1, 1) := by decide +kernel
theorem dX16_says_13 : decode cX16_says 13 = .ok (.istore 4, 2) := by decide +kernel
theorem dX16_says_15 : decode cX16_says 15 = .ok (.iload 4, 2) := by decide +kernel
theorem dX16_says_17 : decode cX16_says 17 = .ok (.iload_n 2, 1) := by decide +kernel
theorem dX16_says_18 : decode cX16_says 18 = .ok (.if_icmp .ge 28, 3) := by decide +kernel
theorem dX16_says_21 : decode cX16_says 21 = .ok (.aload_n 0, 1) := by decide +kernel
theorem dX16_says_22 : decode cX16_says 22 = .ok (.iload 4, 2) := by decide +kernel
theorem dX16_says_24 : decode cX16_says 24 = .ok (.invokevirtual 693, 3) := by decide +kernel
theorem dX16_says_27 : decode cX16_says 27 = .ok (.aload_n 3, 1) := by decide +kernel
theorem dX16_says_28 : decode cX16_says 28 = .ok (.iload 4, 2) := by decide +kernel
theorem dX16_says_30 : decode cX16_says 30 = .ok (.iload_n 1, 1) := by decide +kernel
theorem dX16_says_31 : decode cX16_says 31 = .ok (.isub, 1) := by decide +kernel
theorem dX16_says_32 : decode cX16_says 32 = .ok (.invokevirtual 721, 3) := by decide +kernel
theorem dX16_says_35 : decode cX16_says 35 = .ok (.if_icmp .eq 5, 3) := by decide +kernel
theorem dX16_says_38 : decode cX16_says 38 = .ok (.iconst 0, 1) := by decide +kernel
theorem dX16_says_39 : decode cX16_says 39 = .ok (.ireturn, 1) := by decide +kernel
theorem dX16_says_40 : decode cX16_says 40 = .ok (.iinc 4 1, 3) := by decide +kernel
theorem dX16_says_43 : decode cX16_says 43 = .ok (.goto (-28), 3) := by decide +kernel
theorem dX16_says_46 : decode cX16_says 46 = .ok (.iconst 1, 1) := by decide +kernel
theorem dX16_says_47 : decode cX16_says 47 = .ok (.ireturn, 1) := by decide +kernel
theorem wX16_says_L15 {x : GX} {n0 sl0 : Nat} (X : Cx x cX16_says RX16 (some .boolean) n0 sl0 5 106) {out : Int32 × Mm} (hE : Ends x n0 sl0 (some (pI out.1)) out.2) (hn : xn x = 5) (fu : Nat)   : ∀ (n : Nat) (a0 : Nat) (a1 : Int32) (a2 : Int32) (a3 : Option Nat) (a4 : Int32)  (M : Mm), fX16_says_L15 fu  n a0 a1 a2 a3 a4 M = some out → Gw x M 15 [(0, pR (some a0)), (1, pI a1), (2, pI a2), (3, pR a3), (4, pI a4)] [] := by
  intro n
  induction n with
  | zero =>
    intro a0 a1 a2 a3 a4 M h
    have h : (none : Option (Int32 × Mm)) = some out := h
    cases h
  | succ n ih =>
    intro a0 a1 a2 a3 a4 M h
    rw [fX16_says_L15] at h
    refine g_iload X (pc := 15) 4 rfl dX16_says_15 ?_
    refine g_iload_n X (pc := 17) 2 rfl rfl dX16_says_17 ?_
    refine g_icmp_ge X (pc := 18) (tgt := 46) dX16_says_18 (by decide) (fun hc => ?_) (fun hc => ?_)
    · have h := (if_pos hc).symm.trans h
      refine g_iconst X (pc := 46) (v := 1) dX16_says_46 (by decide) ?_
      obtain ⟨hz, rfl⟩ := rN_some h
      exact g_nreturn X rfl hz hE dX16_says_47
    · have h := (if_neg hc).symm.trans h
      refine g_aload_n X (pc := 21) 0 rfl rfl dX16_says_21 ?_
      refine g_iload X (pc := 22) 4 rfl dX16_says_22 ?_
      obtain ⟨q1, eq1, h⟩ := bd h
      obtain ⟨v3, M2, eM2, h⟩ := b2d h
      refine g_callV X (pc := 24) (M' := M2) (ro := some (pI v3)) (c := 16) rfl (by decide) (as := [pI a4]) (as' := [pI a4]) (st := []) eq1 (ctX16_headAt _ _ _ _ _ _ fu q1 a4 M _ eM2) tb_2352 tb_2349 tb_2351 ts_124 tb_8 ⟨rfl, hyX16_headAt⟩ rfl rfl ⟨by decide, by decide⟩ (Nat.le_of_ble_eq_true rfl) dX16_says_24 ?_
      refine g_aload_n X (pc := 27) 3 rfl rfl dX16_says_27 ?_
      refine g_iload X (pc := 28) 4 rfl dX16_says_28 ?_
      refine g_iload_n X (pc := 30) 1 rfl rfl dX16_says_30 ?_
      refine g_isub X (pc := 31) dX16_says_31 ?_
      obtain ⟨q4, eq4, h⟩ := bd h
      obtain ⟨v6, M5, eM5, h⟩ := b2d h
      refine g_callVS X (pc := 32) (M' := M5) (ro := some (pI v6)) (as := [pI (a4 - a1)]) (as' := [pI (a4 - a1)]) (st := [pI v3]) eq4 (ctJ0_charAt_5068e _ _ _ _ _ _ fu q4 (a4 - a1) M2 _ eM5) tb_1224 tb_2359 tb_1222 tb_1223 tb_21 ⟨rfl, hyJ0_charAt_5068e⟩ rfl rfl ⟨by decide, by decide⟩ (Nat.le_of_ble_eq_true rfl) dX16_says_32 ?_
      refine g_icmp_eq X (pc := 35) (tgt := 40) dX16_says_35 (by decide) (fun hc => ?_) (fun hc => ?_)
      · have h := (if_pos hc).symm.trans h
        refine g_iinc X (pc := 40) 4 [(4, pI (a4 + (1 : Int32))), (0, pR (some a0)), (1, pI a1), (2, pI a2), (3, pR a3)] rfl (iinc_e (by decide)) (lt_n hn (by decide)) rfl dX16_says_40 ?_
        refine g_goto X (pc := 43) (tgt := 15) dX16_says_43 (by decide) ?_
        refine g_sub [1, 2, 3, 4, 0] [(0, pR (some a0)), (1, pI a1), (2, pI a2), (3, pR a3), (4, pI (a4 + (1 : Int32)))] rfl ?_
        exact ih a0 a1 a2 a3 (a4 + (1 : Int32)) M5 h
      · have h := (if_neg hc).symm.trans h
        refine g_iconst X (pc := 38) (v := 0) dX16_says_38 (by decide) ?_
        obtain ⟨hz, rfl⟩ := rN_some h
        exact g_nreturn X rfl hz hE dX16_says_39
theorem wX16_says {x : GX} {n0 sl0 : Nat} (X : Cx x cX16_says RX16 (some .boolean) n0 sl0 5 106) {out : Int32 × Mm} (hE : Ends x n0 sl0 (some (pI out.1)) out.2) (hn : xn x = 5) (fu : Nat)   (a0 : Nat) (a1 : Int32) (a2 : Int32) (a3 : Option Nat)  (M : Mm) (h : fX16_says fu  a0 a1 a2 a3 M = some out) : Gw x M 0 [(0, pR (some a0)), (1, pI a1), (2, pI a2), (3, pR a3)] [] := by
  unfold fX16_says at h
  refine g_iload_n X (pc := 0) 2 rfl rfl dX16_says_0 ?_
  refine g_iload_n X (pc := 1) 1 rfl rfl dX16_says_1 ?_
  refine g_isub X (pc := 2) dX16_says_2 ?_
  refine g_aload_n X (pc := 3) 3 rfl rfl dX16_says_3 ?_
  obtain ⟨q1, eq1, h⟩ := bd h
  obtain ⟨v3, M2, eM2, h⟩ := b2d h
  refine g_callVS X (pc := 4) (M' := M2) (ro := some (pI v3)) (as := []) (as' := []) (st := [pI (a2 - a1)]) eq1 (ctJ0_length_8abf5 _ _ _ _ _ _ fu q1  M _ eM2) tb_1214 tb_2358 tb_1212 tb_1213 tb_21 ⟨rfl, hyJ0_length_8abf5⟩ rfl rfl ⟨by decide, by decide⟩ (Nat.le_of_ble_eq_true rfl) dX16_says_4 ?_
  refine g_icmp_eq X (pc := 7) (tgt := 12) dX16_says_7 (by decide) (fun hc => ?_) (fun hc => ?_)
  · have h := (if_pos hc).symm.trans h
    refine g_iload_n X (pc := 12) 1 rfl rfl dX16_says_12 ?_
    refine g_istore X (pc := 13) [(4, pI a1), (0, pR (some a0)), (1, pI a1), (2, pI a2), (3, pR a3)] (lt_n hn (by decide)) rfl dX16_says_13 ?_
    refine g_sub [1, 2, 3, 4, 0] [(0, pR (some a0)), (1, pI a1), (2, pI a2), (3, pR a3), (4, pI a1)] rfl ?_
    exact wX16_says_L15 X hE hn fu   fu a0 a1 a2 a3 a1 M2 h
  · have h := (if_neg hc).symm.trans h
    refine g_iconst X (pc := 10) (v := 0) dX16_says_10 (by decide) ?_
    obtain ⟨hz, rfl⟩ := rN_some h
    exact g_nreturn X rfl hz hE dX16_says_11
theorem hyX16_says : yX16_says.cls ≠ "java/lang/invoke/MethodHandle" ∧ yX16_says.cls ≠ "java/lang/invoke/VarHandle" ∧ (parseMethodDescriptor yX16_says.desc).map (fun d => d.parameters.length) = some 3 := ⟨by decide +kernel, by decide +kernel, by decide +kernel⟩
theorem ctX16_says (l : Launch) (E : Nat → Nat) (D : va_G) (dA : Nat → ClassId) (lo : Nat) (H0 : Heap) (fu : Nat) (a0 : Nat) (a1 : Int32) (a2 : Int32) (a3 : Option Nat) (M : Mm) (out : Int32 × Mm) (h : fX16_says fu a0 a1 a2 a3 M = some out) : Ct l E D dA lo H0 yX16_says cX16_says 5 (some .boolean) 5 106 [pR (some a0), pI a1, pI a2, pR a3] M (some (pI out.1)) out.2 := by
  refine ct_of (by decide +kernel) (Nat.le_of_ble_eq_true rfl) ?_
  intro x hl he hd ha ho hh hn hin X hE
  exact wX16_says X hE hn fu a0 a1 a2 a3 M h
