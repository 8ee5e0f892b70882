/-! ===== walks of methods, printed by a program of ours ===== -/
/-! WebHost.isHostNumber(I)Z -/
def fX11_isHostNumber (fu : Nat)  (a0 : Int32)  (M : Mm) : Option (Int32 × Mm) :=
    if (ushr a0 (24 : Int32)) < (1 : Int32) then (
    rN .boolean (0 : Int32) M)
    else (
    if (223 : Int32) < (ushr a0 (24 : Int32)) then (
    rN .boolean (0 : Int32) M)
    else (
    if (ushr a0 (24 : Int32)) = (127 : Int32) then (
    rN .boolean (0 : Int32) M)
    else (
    rN .boolean (1 : Int32) M)))
theorem dX11_isHostNumber_0 : decode cX11_isHostNumber 0 = .ok (.iload_n 0, 1) := by decide +kernel
theorem dX11_isHostNumber_1 : decode cX11_isHostNumber 1 = .ok (.bipush 24, 2) := by decide +kernel
theorem dX11_isHostNumber_3 : decode cX11_isHostNumber 3 = .ok (.iushr, 1) := by decide +kernel
theorem dX11_isHostNumber_4 : decode cX11_isHostNumber 4 = .ok (.istore_n 1, 1) := by decide +kernel
theorem dX11_isHostNumber_5 : decode cX11_isHostNumber 5 = .ok (.iload_n 1, 1) := by decide +kernel
theorem dX11_isHostNumber_6 : decode cX11_isHostNumber 6 = .ok (.iconst 1, 1) := by decide +kernel
theorem dX11_isHostNumber_7 : decode cX11_isHostNumber 7 = .ok (.if_icmp .lt 20, 3) := by decide +kernel
theorem dX11_isHostNumber_10 : decode cX11_isHostNumber 10 = .ok (.iload_n 1, 1) := by decide +kernel
theorem dX11_isHostNumber_11 : decode cX11_isHostNumber 11 = .ok (.sipush 223, 3) := by decide +kernel
theorem dX11_isHostNumber_14 : decode cX11_isHostNumber 14 = .ok (.if_icmp .gt 13, 3) := by decide +kernel
theorem dX11_isHostNumber_17 : decode cX11_isHostNumber 17 = .ok (.iload_n 1, 1) := by decide +kernel
theorem dX11_isHostNumber_18 : decode cX11_isHostNumber 18 = .ok (.bipush 127, 2) := by decide +kernel
theorem dX11_isHostNumber_20 : decode cX11_isHostNumber 20 = .ok (.if_icmp .eq 7, 3) := by decide +kernel
theorem dX11_isHostNumber_23 : decode cX11_isHostNumber 23 = .ok (.iconst 1, 1) := by decide +kernel
theorem dX11_isHostNumber_24 : decode cX11_isHostNumber 24 = .ok (.goto 4, 3) := by decide +kernel
theorem dX11_isHostNumber_27 : decode cX11_isHostNumber 27 = .ok (.iconst 0, 1) := by decide +kernel
theorem dX11_isHostNumber_28 : decode cX11_isHostNumber 28 = .ok (.ireturn, 1) := by decide +kernel
theorem wX11_isHostNumber {x : GX} {n0 sl0 : Nat} (X : Cx x cX11_isHostNumber RX11 (some .boolean) n0 sl0 0 0) {out : Int32 × Mm} (hE : Ends x n0 sl0 (some (pI out.1)) out.2) (hn : xn x = 2) (fu : Nat)   (a0 : Int32)  (M : Mm) (h : fX11_isHostNumber fu  a0 M = some out) : Gw x M 0 [(0, pI a0)] [] := by
  unfold fX11_isHostNumber at h
  refine g_iload_n X (pc := 0) 0 rfl rfl dX11_isHostNumber_0 ?_
  refine g_bipush X (pc := 1) (v := 24) dX11_isHostNumber_1 (by decide) ?_
  refine g_iushr X (pc := 3) dX11_isHostNumber_3 ?_
  refine g_istore_n X (pc := 4) [(1, pI (ushr a0 (24 : Int32))), (0, pI a0)] rfl (lt_n hn (by decide)) rfl dX11_isHostNumber_4 ?_
  refine g_iload_n X (pc := 5) 0 rfl rfl dX11_isHostNumber_5 ?_
  refine g_iconst X (pc := 6) (v := 1) dX11_isHostNumber_6 (by decide) ?_
  refine g_icmp_lt X (pc := 7) (tgt := 27) dX11_isHostNumber_7 (by decide) (fun hc => ?_) (fun hc => ?_)
  · have h := (if_pos hc).symm.trans h
    refine g_iconst X (pc := 27) (v := 0) dX11_isHostNumber_27 (by decide) ?_
    obtain ⟨hz, rfl⟩ := rN_some h
    exact g_nreturn X rfl hz hE dX11_isHostNumber_28
  · have h := (if_neg hc).symm.trans h
    refine g_iload_n X (pc := 10) 0 rfl rfl dX11_isHostNumber_10 ?_
    refine g_sipush X (pc := 11) (v := 223) dX11_isHostNumber_11 (by decide) ?_
    refine g_icmp_gt X (pc := 14) (tgt := 27) dX11_isHostNumber_14 (by decide) (fun hc => ?_) (fun hc => ?_)
    · have h := (if_pos hc).symm.trans h
      refine g_iconst X (pc := 27) (v := 0) dX11_isHostNumber_27 (by decide) ?_
      obtain ⟨hz, rfl⟩ := rN_some h
      exact g_nreturn X rfl hz hE dX11_isHostNumber_28
    · have h := (if_neg hc).symm.trans h
      refine g_iload_n X (pc := 17) 0 rfl rfl dX11_isHostNumber_17 ?_
      refine g_bipush X (pc := 18) (v := 127) dX11_isHostNumber_18 (by decide) ?_
      refine g_icmp_eq X (pc := 20) (tgt := 27) dX11_isHostNumber_20 (by decide) (fun hc => ?_) (fun hc => ?_)
      · have h := (if_pos hc).symm.trans h
        refine g_iconst X (pc := 27) (v := 0) dX11_isHostNumber_27 (by decide) ?_
        obtain ⟨hz, rfl⟩ := rN_some h
        exact g_nreturn X rfl hz hE dX11_isHostNumber_28
      · have h := (if_neg hc).symm.trans h
        refine g_iconst X (pc := 23) (v := 1) dX11_isHostNumber_23 (by decide) ?_
        refine g_goto X (pc := 24) (tgt := 28) dX11_isHostNumber_24 (by decide) ?_
        obtain ⟨hz, rfl⟩ := rN_some h
        exact g_nreturn X rfl hz hE dX11_isHostNumber_28
theorem hyX11_isHostNumber : yX11_isHostNumber.cls ≠ "java/lang/invoke/MethodHandle" ∧ yX11_isHostNumber.cls ≠ "java/lang/invoke/VarHandle" ∧ (parseMethodDescriptor yX11_isHostNumber.desc).map (fun d => d.parameters.length) = some 1 := ⟨by decide +kernel, by decide +kernel, by decide +kernel⟩
theorem ctX11_isHostNumber (l : Launch) (E : Nat → Nat) (D : va_G) (dA : Nat → ClassId) (lo : Nat) (H0 : Heap) (fu : Nat) (a0 : Int32) (M : Mm) (out : Int32 × Mm) (h : fX11_isHostNumber fu a0 M = some out) : Ct l E D dA lo H0 yX11_isHostNumber cX11_isHostNumber 2 (some .boolean) 0 0 [pI a0] M (some (pI out.1)) out.2 := by
  refine ct_of (by decide +kernel) (Nat.le_of_ble_eq_true rfl) ?_
  intro x hl he hd ha ho hh hn hin X hE
  exact wX11_isHostNumber X hE hn fu a0 M h
/-! WebHost$Intake.indexOf(I)I -/
def fX3_indexOf_L92 (fu : Nat)  (a0 : Nat) (a1 : Int32) (a2 : Option Nat)  (M : Mm) : Option (Int32 × Mm) :=
    (gI M 3 193 (some a0)).bind fun v1 =>
    (gI M 3 204 (some a0)).bind fun v2 =>
    (gR M 3 205 (some a0)).bind fun v3 =>
    (gI M 10 641 v3).bind fun v4 =>
    (rc M 2 a2).bind fun q5 =>
    (fX2_begin fu q5 v1 a1 v2 v4 M).bind fun M6 =>
    (gI M6 3 208 (some a0)).bind fun v7 =>
    (pF M6 3 208 (some a0) (v7 + (1 : Int32))).bind fun M8 =>
    (gI M8 3 208 (some a0)).bind fun v9 =>
    some ((v9 - (1 : Int32)), M8)
def fX3_indexOf_L50 (fu : Nat)  (a0 : Nat) (a1 : Int32)  (M : Mm) : Option (Int32 × Mm) :=
    (gI M 3 208 (some a0)).bind fun v1 =>
    if v1 < (4 : Int32) then (
    (gR M 3 207 (some a0)).bind fun v2 =>
    (gI M 3 208 (some a0)).bind fun v3 =>
    (gB M 112 v2 v3).bind fun v4 =>
    if v4 = none then (
    b2 (mkO M 2) fun v5 M6 =>
    (fX2_init fu v5  M6).bind fun M7 =>
    (gR M7 3 207 (some a0)).bind fun v8 =>
    (gI M7 3 208 (some a0)).bind fun v9 =>
    (pB M7 2 v8 v9 (some v5)).bind fun M10 =>
    fX3_indexOf_L92 fu  a0 a1 (some v5) M10)
    else (
    fX3_indexOf_L92 fu  a0 a1 v4 M))
    else (
    some ((-1 : Int32), M))
def fX3_indexOf_L44 (fu : Nat) (k2 : Nat → Int32 → Int32 → Mm → Option (Int32 × Mm)) (a0 : Nat) (a1 : Int32) (a2 : Int32)  (M : Mm) : Option (Int32 × Mm) :=
    k2 a0 a1 (a2 + (1 : Int32)) M
def fX3_indexOf_L2 (fu : Nat)  : Nat → Nat → Int32 → Int32 → Mm → Option (Int32 × Mm)
  | 0, _, _, _, _ => none
  | n + 1, a0, a1, a2, M =>
    (gI M 3 208 (some a0)).bind fun v1 =>
    if v1 ≤ a2 then (
    fX3_indexOf_L50 fu  a0 a1 M)
    else (
    if (4 : Int32) ≤ a2 then (
    fX3_indexOf_L50 fu  a0 a1 M)
    else (
    (gR M 3 207 (some a0)).bind fun v2 =>
    (gB M 112 v2 a2).bind fun v3 =>
    if v3 = none then (
    fX3_indexOf_L44 fu (fun b0 b1 b2 M => fX3_indexOf_L2 fu  n b0 b1 b2 M) a0 a1 a2 M)
    else (
    (gI M 3 193 (some a0)).bind fun v4 =>
    (gI M 3 204 (some a0)).bind fun v5 =>
    (rc M 2 v3).bind fun q6 =>
    b2 (fX2_isOf fu q6 v4 a1 v5 M) fun v8 M7 =>
    if v8 = 0 then (
    fX3_indexOf_L44 fu (fun b0 b1 b2 M => fX3_indexOf_L2 fu  n b0 b1 b2 M) a0 a1 a2 M7)
    else (
    some (a2, M7)))))
def fX3_indexOf (fu : Nat)  (a0 : Nat) (a1 : Int32)  (M : Mm) : Option (Int32 × Mm) :=
    fX3_indexOf_L2 fu  fu a0 a1 (0 : Int32) M
theorem dX3_indexOf_0 : decode cX3_indexOf 0 = .ok (.iconst 0, 1) := by decide +kernel
theorem dX3_indexOf_1 : decode cX3_indexOf 1 = .ok (.istore_n 2, 1) := by decide +kernel
theorem dX3_indexOf_2 : decode cX3_indexOf 2 = .ok (.iload_n 2, 1) := by decide +kernel
theorem dX3_indexOf_3 : decode cX3_indexOf 3 = .ok (.aload_n 0, 1) := by decide +kernel
theorem dX3_indexOf_4 : decode cX3_indexOf 4 = .ok (.getfield 29, 3) := by decide +kernel
theorem dX3_indexOf_7 : decode cX3_indexOf 7 = .ok (.if_icmp .ge 43, 3) := by decide +kernel
theorem dX3_indexOf_10 : decode cX3_indexOf 10 = .ok (.iload_n 2, 1) := by decide +kernel
theorem dX3_indexOf_11 : decode cX3_indexOf 11 = .ok (.iconst 4, 1) := by decide +kernel
theorem dX3_indexOf_12 : decode cX3_indexOf 12 = .ok (.if_icmp .ge 38, 3) := by decide +kernel
theorem dX3_indexOf_15 : decode cX3_indexOf 15 = .ok (.aload_n 0, 1) := by decide +kernel
theorem dX3_indexOf_16 : decode cX3_indexOf 16 = .ok (.getfield 25, 3) := by decide +kernel
theorem dX3_indexOf_19 : decode cX3_indexOf 19 = .ok (.iload_n 2, 1) := by decide +kernel
theorem dX3_indexOf_20 : decode cX3_indexOf 20 = .ok (.aaload, 1) := by decide +kernel
theorem dX3_indexOf_21 : decode cX3_indexOf 21 = .ok (.astore_n 3, 1) := by decide +kernel
theorem dX3_indexOf_22 : decode cX3_indexOf 22 = .ok (.aload_n 3, 1) := by decide +kernel
theorem dX3_indexOf_23 : decode cX3_indexOf 23 = .ok (.ifnull 21, 3) := by decide +kernel
theorem dX3_indexOf_26 : decode cX3_indexOf 26 = .ok (.aload_n 3, 1) := by decide +kernel
theorem dX3_indexOf_27 : decode cX3_indexOf 27 = .ok (.aload_n 0, 1) := by decide +kernel
theorem dX3_indexOf_28 : decode cX3_indexOf 28 = .ok (.getfield 67, 3) := by decide +kernel
theorem dX3_indexOf_31 : decode cX3_indexOf 31 = .ok (.iload_n 1, 1) := by decide +kernel
theorem dX3_indexOf_32 : decode cX3_indexOf 32 = .ok (.aload_n 0, 1) := by decide +kernel
theorem dX3_indexOf_33 : decode cX3_indexOf 33 = .ok (.getfield 45, 3) := by decide +kernel
theorem dX3_indexOf_36 : decode cX3_indexOf 36 = .ok (.invokevirtual 119, 3) := by decide +kernel
theorem dX3_indexOf_39 : decode cX3_indexOf 39 = .ok (.ifCond .eq 5, 3) := by decide +kernel
theorem dX3_indexOf_42 : decode cX3_indexOf 42 = .ok (.iload_n 2, 1) := by decide +kernel
theorem dX3_indexOf_43 : decode cX3_indexOf 43 = .ok (.ireturn, 1) := by decide +kernel
theorem dX3_indexOf_44 : decode cX3_indexOf 44 = .ok (.iinc 2 1, 3) := by decide +kernel
theorem dX3_indexOf_47 : decode cX3_indexOf 47 = .ok (.goto (-45), 3) := by decide +kernel
theorem dX3_indexOf_50 : decode cX3_indexOf 50 = .ok (.aload_n 0, 1) := by decide +kernel
theorem dX3_indexOf_51 : decode cX3_indexOf 51 = .ok (.getfield 29, 3) := by decide +kernel
theorem dX3_indexOf_54 : decode cX3_indexOf 54 = .ok (.iconst 4, 1) := by decide +kernel
theorem dX3_indexOf_55 : decode cX3_indexOf 55 = .ok (.if_icmp .lt 5, 3) := by decide +kernel
theorem dX3_indexOf_58 : decode cX3_indexOf 58 = .ok (.iconst (-1), 1) := by decide +kernel
theorem dX3_indexOf_59 : decode cX3_indexOf 59 = .ok (.ireturn, 1) := by decide +kernel
theorem dX3_indexOf_60 : decode cX3_indexOf 60 = .ok (.aload_n 0, 1) := by decide +kernel
theorem dX3_indexOf_61 : decode cX3_indexOf 61 = .ok (.getfield 25, 3) := by decide +kernel
theorem dX3_indexOf_64 : decode cX3_indexOf 64 = .ok (.aload_n 0, 1) := by decide +kernel
theorem dX3_indexOf_65 : decode cX3_indexOf 65 = .ok (.getfield 29, 3) := by decide +kernel
theorem dX3_indexOf_68 : decode cX3_indexOf 68 = .ok (.aaload, 1) := by decide +kernel
theorem dX3_indexOf_69 : decode cX3_indexOf 69 = .ok (.astore_n 2, 1) := by decide +kernel
theorem dX3_indexOf_70 : decode cX3_indexOf 70 = .ok (.aload_n 2, 1) := by decide +kernel
theorem dX3_indexOf_71 : decode cX3_indexOf 71 = .ok (.ifnonnull 21, 3) := by decide +kernel
theorem dX3_indexOf_74 : decode cX3_indexOf 74 = .ok (.new 23, 3) := by decide +kernel
theorem dX3_indexOf_77 : decode cX3_indexOf 77 = .ok (.dup, 1) := by decide +kernel
theorem dX3_indexOf_78 : decode cX3_indexOf 78 = .ok (.invokespecial 123, 3) := by decide +kernel
theorem dX3_indexOf_81 : decode cX3_indexOf 81 = .ok (.astore_n 2, 1) := by decide +kernel
theorem dX3_indexOf_82 : decode cX3_indexOf 82 = .ok (.aload_n 0, 1) := by decide +kernel
theorem dX3_indexOf_83 : decode cX3_indexOf 83 = .ok (.getfield 25, 3) := by decide +kernel
theorem dX3_indexOf_86 : decode cX3_indexOf 86 = .ok (.aload_n 0, 1) := by decide +kernel
theorem dX3_indexOf_87 : decode cX3_indexOf 87 = .ok (.getfield 29, 3) := by decide +kernel
theorem dX3_indexOf_90 : decode cX3_indexOf 90 = .ok (.aload_n 2, 1) := by decide +kernel
theorem dX3_indexOf_91 : decode cX3_indexOf 91 = .ok (.aastore, 1) := by decide +kernel
theorem dX3_indexOf_92 : decode cX3_indexOf 92 = .ok (.aload_n 2, 1) := by decide +kernel
theorem dX3_indexOf_93 : decode cX3_indexOf 93 = .ok (.aload_n 0, 1) := by decide +kernel
theorem dX3_indexOf_94 : decode cX3_indexOf 94 = .ok (.getfield 67, 3) := by decide +kernel
theorem dX3_indexOf_97 : decode cX3_indexOf 97 = .ok (.iload_n 1, 1) := by decide +kernel
theorem dX3_indexOf_98 : decode cX3_indexOf 98 = .ok (.aload_n 0, 1) := by decide +kernel
theorem dX3_indexOf_99 : decode cX3_indexOf 99 = .ok (.getfield 45, 3) := by decide +kernel
theorem dX3_indexOf_102 : decode cX3_indexOf 102 = .ok (.aload_n 0, 1) := by decide +kernel
theorem dX3_indexOf_103 : decode cX3_indexOf 103 = .ok (.getfield 9, 3) := by decide +kernel
theorem dX3_indexOf_106 : decode cX3_indexOf 106 = .ok (.getfield 124, 3) := by decide +kernel
theorem dX3_indexOf_109 : decode cX3_indexOf 109 = .ok (.invokevirtual 127, 3) := by decide +kernel
theorem dX3_indexOf_112 : decode cX3_indexOf 112 = .ok (.aload_n 0, 1) := by decide +kernel
theorem dX3_indexOf_113 : decode cX3_indexOf 113 = .ok (.dup, 1) := by decide +kernel
theorem dX3_indexOf_114 : decode cX3_indexOf 114 = .ok (.getfield 29, 3) := by decide +kernel
theorem dX3_indexOf_117 : decode cX3_indexOf 117 = .ok (.iconst 1, 1) := by decide +kernel
theorem dX3_indexOf_118 : decode cX3_indexOf 118 = .ok (.iadd, 1) := by decide +kernel
theorem dX3_indexOf_119 : decode cX3_indexOf 119 = .ok (.putfield 29, 3) := by decide +kernel
theorem dX3_indexOf_122 : decode cX3_indexOf 122 = .ok (.aload_n 0, 1) := by decide +kernel
theorem dX3_indexOf_123 : decode cX3_indexOf 123 = .ok (.getfield 29, 3) := by decide +kernel
theorem dX3_indexOf_126 : decode cX3_indexOf 126 = .ok (.iconst 1, 1) := by decide +kernel
theorem dX3_indexOf_127 : decode cX3_indexOf 127 = .ok (.isub, 1) := by decide +kernel
theorem dX3_indexOf_128 : decode cX3_indexOf 128 = .ok (.ireturn, 1) := by decide +kernel
theorem wX3_indexOf_L92 {x : GX} {n0 sl0 : Nat} (X : Cx x cX3_indexOf RX3 (some .int) n0 sl0 2 47) {out : Int32 × Mm} (hE : Ends x n0 sl0 (some (pI out.1)) out.2) (hn : xn x = 4) (fu : Nat)   (a0 : Nat) (a1 : Int32) (a2 : Option Nat)  (M : Mm) (h : fX3_indexOf_L92 fu  a0 a1 a2 M = some out) : Gw x M 92 [(0, pR (some a0)), (1, pI a1), (2, pR a2)] [] := by
  unfold fX3_indexOf_L92 at h
  refine g_aload_n X (pc := 92) 2 rfl rfl dX3_indexOf_92 ?_
  refine g_aload_n X (pc := 93) 0 rfl rfl dX3_indexOf_93 ?_
  obtain ⟨v1, ev1, h⟩ := bd h
  refine g_getI X (pc := 94) fk_3_1 rfl rfl ev1 tb_161 dX3_indexOf_94 ?_
  refine g_iload_n X (pc := 97) 1 rfl rfl dX3_indexOf_97 ?_
  refine g_aload_n X (pc := 98) 0 rfl rfl dX3_indexOf_98 ?_
  obtain ⟨v2, ev2, h⟩ := bd h
  refine g_getI X (pc := 99) fk_3_12 rfl rfl ev2 tb_186 dX3_indexOf_99 ?_
  refine g_aload_n X (pc := 102) 0 rfl rfl dX3_indexOf_102 ?_
  obtain ⟨v3, ev3, h⟩ := bd h
  refine g_getR X (pc := 103) fk_3_13 rfl rfl ev3 tb_187 dX3_indexOf_103 ?_
  obtain ⟨v4, ev4, h⟩ := bd h
  refine g_getI X (pc := 106) fk_10_1 rfl rfl ev4 tb_69 dX3_indexOf_106 ?_
  obtain ⟨q5, eq5, h⟩ := bd h
  obtain ⟨M6, eM6, h⟩ := bd h
  refine g_callV X (pc := 109) (M' := M6) (ro := none) (c := 2) rfl (by decide) (as := [pI v1, pI a1, pI v2, pI v4]) (as' := [pI v4, pI v2, pI a1, pI v1]) (st := []) eq5 (ctX2_begin _ _ _ _ _ _ fu q5 v1 a1 v2 v4 M _ eM6) tb_777 tb_774 tb_775 tb_776 tb_17 ⟨rfl, hyX2_begin⟩ rfl rfl ⟨by decide, by decide⟩ (Nat.le_of_ble_eq_true rfl) dX3_indexOf_109 ?_
  refine g_aload_n X (pc := 112) 0 rfl rfl dX3_indexOf_112 ?_
  refine g_dup X (pc := 113) rfl dX3_indexOf_113 ?_
  obtain ⟨v7, ev7, h⟩ := bd h
  refine g_getI X (pc := 114) fk_3_16 rfl rfl ev7 tb_190 dX3_indexOf_114 ?_
  refine g_iconst X (pc := 117) (v := 1) dX3_indexOf_117 (by decide) ?_
  refine g_iadd X (pc := 118) dX3_indexOf_118 ?_
  obtain ⟨M8, eM8, h⟩ := bd h
  refine g_putI X (pc := 119) fk_3_16 rfl rfl rfl eM8 tb_190 (Or.inl rfl) dX3_indexOf_119 ?_
  refine g_aload_n X (pc := 122) 0 rfl rfl dX3_indexOf_122 ?_
  obtain ⟨v9, ev9, h⟩ := bd h
  refine g_getI X (pc := 123) fk_3_16 rfl rfl ev9 tb_190 dX3_indexOf_123 ?_
  refine g_iconst X (pc := 126) (v := 1) dX3_indexOf_126 (by decide) ?_
  refine g_isub X (pc := 127) dX3_indexOf_127 ?_
  obtain rfl := Option.some.inj h
  exact g_ireturn X hE dX3_indexOf_128
theorem wX3_indexOf_L50 {x : GX} {n0 sl0 : Nat} (X : Cx x cX3_indexOf RX3 (some .int) n0 sl0 2 47) {out : Int32 × Mm} (hE : Ends x n0 sl0 (some (pI out.1)) out.2) (hn : xn x = 4) (fu : Nat)   (a0 : Nat) (a1 : Int32)  (M : Mm) (h : fX3_indexOf_L50 fu  a0 a1 M = some out) : Gw x M 50 [(0, pR (some a0)), (1, pI a1)] [] := by
  unfold fX3_indexOf_L50 at h
  refine g_aload_n X (pc := 50) 0 rfl rfl dX3_indexOf_50 ?_
  obtain ⟨v1, ev1, h⟩ := bd h
  refine g_getI X (pc := 51) fk_3_16 rfl rfl ev1 tb_190 dX3_indexOf_51 ?_
  refine g_iconst X (pc := 54) (v := 4) dX3_indexOf_54 (by decide) ?_
  refine g_icmp_lt X (pc := 55) (tgt := 60) dX3_indexOf_55 (by decide) (fun hc => ?_) (fun hc => ?_)
  · have h := (if_pos hc).symm.trans h
    refine g_aload_n X (pc := 60) 0 rfl rfl dX3_indexOf_60 ?_
    obtain ⟨v2, ev2, h⟩ := bd h
    refine g_getR X (pc := 61) fk_3_15 rfl rfl ev2 tb_189 dX3_indexOf_61 ?_
    refine g_aload_n X (pc := 64) 0 rfl rfl dX3_indexOf_64 ?_
    obtain ⟨v3, ev3, h⟩ := bd h
    refine g_getI X (pc := 65) fk_3_16 rfl rfl ev3 tb_190 dX3_indexOf_65 ?_
    obtain ⟨v4, ev4, h⟩ := bd h
    refine g_aaload X (pc := 68) (k := 4) rfl rfl (by decide) ev4 dX3_indexOf_68 ?_
    refine g_astore_n X (pc := 69) [(2, pR v4), (0, pR (some a0)), (1, pI a1)] rfl (lt_n hn (by decide)) rfl dX3_indexOf_69 ?_
    refine g_aload_n X (pc := 70) 0 rfl rfl dX3_indexOf_70 ?_
    refine g_ifnonnull X (pc := 71) (tgt := 92) dX3_indexOf_71 (by decide) (fun hc => ?_) (fun hc => ?_)
    · have h := (if_neg hc).symm.trans h
      refine g_sub [1, 2, 0] [(0, pR (some a0)), (1, pI a1), (2, pR v4)] rfl ?_
      exact wX3_indexOf_L92 X hE hn fu   a0 a1 v4 M h
    · have h := (if_pos hc).symm.trans h
      obtain ⟨v5, M6, eM6, h⟩ := b2d h
      refine g_new X (pc := 74) fk_2_0 dvX2 eM6 tb_156 tb_738 tb_17 dX3_indexOf_74 ?_
      refine g_dup X (pc := 77) rfl dX3_indexOf_77 ?_
      obtain ⟨M7, eM7, h⟩ := bd h
      refine g_callI X (pc := 78) (M' := M7) (as := []) (as' := []) (st := [pR (some v5)]) (ctX2_init _ _ _ _ _ _ fu v5  M6 _ eM7) tb_741 tb_739 tb_740 tb_17 rfl hyX2_init rfl rfl ⟨by decide, by decide⟩ (Nat.le_of_ble_eq_true rfl) dX3_indexOf_78 ?_
      refine g_astore_n X (pc := 81) [(2, pR (some v5)), (0, pR (some a0)), (1, pI a1)] rfl (lt_n hn (by decide)) rfl dX3_indexOf_81 ?_
      refine g_aload_n X (pc := 82) 1 rfl rfl dX3_indexOf_82 ?_
      obtain ⟨v8, ev8, h⟩ := bd h
      refine g_getR X (pc := 83) fk_3_15 rfl rfl ev8 tb_189 dX3_indexOf_83 ?_
      refine g_aload_n X (pc := 86) 1 rfl rfl dX3_indexOf_86 ?_
      obtain ⟨v9, ev9, h⟩ := bd h
      refine g_getI X (pc := 87) fk_3_16 rfl rfl ev9 tb_190 dX3_indexOf_87 ?_
      refine g_aload_n X (pc := 90) 0 rfl rfl dX3_indexOf_90 ?_
      obtain ⟨M10, eM10, h⟩ := bd h
      refine g_aastore X (pc := 91) (c := 2) (k := 4) rfl (by decide) rfl eM10 dX3_indexOf_91 ?_
      refine g_sub [1, 2, 0] [(0, pR (some a0)), (1, pI a1), (2, pR (some v5))] rfl ?_
      exact wX3_indexOf_L92 X hE hn fu   a0 a1 (some v5) M10 h
  · have h := (if_neg hc).symm.trans h
    refine g_iconst X (pc := 58) (v := (-1)) dX3_indexOf_58 (by decide) ?_
    obtain rfl := Option.some.inj h
    exact g_ireturn X hE dX3_indexOf_59
theorem wX3_indexOf_L44 {x : GX} {n0 sl0 : Nat} (X : Cx x cX3_indexOf RX3 (some .int) n0 sl0 2 47) {out : Int32 × Mm} (hE : Ends x n0 sl0 (some (pI out.1)) out.2) (hn : xn x = 4) (fu : Nat) (k2 : Nat → Int32 → Int32 → Mm → Option (Int32 × Mm)) (hk2 : ∀ (b0 : Nat) (b1 : Int32) (b2 : Int32)  (M : Mm), k2 b0 b1 b2 M = some out → Gw x M 2 [(0, pR (some b0)), (1, pI b1), (2, pI b2)] []) (a0 : Nat) (a1 : Int32) (a2 : Int32)  (M : Mm) (h : fX3_indexOf_L44 fu k2 a0 a1 a2 M = some out) : Gw x M 44 [(0, pR (some a0)), (1, pI a1), (2, pI a2)] [] := by
  unfold fX3_indexOf_L44 at h
  refine g_iinc X (pc := 44) 2 [(2, pI (a2 + (1 : Int32))), (0, pR (some a0)), (1, pI a1)] rfl (iinc_e (by decide)) (lt_n hn (by decide)) rfl dX3_indexOf_44 ?_
  refine g_goto X (pc := 47) (tgt := 2) dX3_indexOf_47 (by decide) ?_
  refine g_sub [1, 2, 0] [(0, pR (some a0)), (1, pI a1), (2, pI (a2 + (1 : Int32)))] rfl ?_
  exact hk2 a0 a1 (a2 + (1 : Int32)) M h
theorem wX3_indexOf_L2 {x : GX} {n0 sl0 : Nat} (X : Cx x cX3_indexOf RX3 (some .int) n0 sl0 2 47) {out : Int32 × Mm} (hE : Ends x n0 sl0 (some (pI out.1)) out.2) (hn : xn x = 4) (fu : Nat)   : ∀ (n : Nat) (a0 : Nat) (a1 : Int32) (a2 : Int32)  (M : Mm), fX3_indexOf_L2 fu  n a0 a1 a2 M = some out → Gw x M 2 [(0, pR (some a0)), (1, pI a1), (2, pI a2)] [] := by
  intro n
  induction n with
  | zero =>
    intro a0 a1 a2 M h
    have h : (none : Option (Int32 × Mm)) = some out := h
    cases h
  | succ n ih =>
    intro a0 a1 a2 M h
    rw [fX3_indexOf_L2] at h
    refine g_iload_n X (pc := 2) 2 rfl rfl dX3_indexOf_2 ?_
    refine g_aload_n X (pc := 3) 0 rfl rfl dX3_indexOf_3 ?_
    obtain ⟨v1, ev1, h⟩ := bd h
    refine g_getI X (pc := 4) fk_3_16 rfl rfl ev1 tb_190 dX3_indexOf_4 ?_
    refine g_icmp_ge X (pc := 7) (tgt := 50) dX3_indexOf_7 (by decide) (fun hc => ?_) (fun hc => ?_)
    · have h := (if_pos hc).symm.trans h
      refine g_sub [0, 1] [(0, pR (some a0)), (1, pI a1)] rfl ?_
      exact wX3_indexOf_L50 X hE hn fu   a0 a1 M h
    · have h := (if_neg hc).symm.trans h
      refine g_iload_n X (pc := 10) 2 rfl rfl dX3_indexOf_10 ?_
      refine g_iconst X (pc := 11) (v := 4) dX3_indexOf_11 (by decide) ?_
      refine g_icmp_ge X (pc := 12) (tgt := 50) dX3_indexOf_12 (by decide) (fun hc => ?_) (fun hc => ?_)
      · have h := (if_pos hc).symm.trans h
        refine g_sub [0, 1] [(0, pR (some a0)), (1, pI a1)] rfl ?_
        exact wX3_indexOf_L50 X hE hn fu   a0 a1 M h
      · have h := (if_neg hc).symm.trans h
        refine g_aload_n X (pc := 15) 0 rfl rfl dX3_indexOf_15 ?_
        obtain ⟨v2, ev2, h⟩ := bd h
        refine g_getR X (pc := 16) fk_3_15 rfl rfl ev2 tb_189 dX3_indexOf_16 ?_
        refine g_iload_n X (pc := 19) 2 rfl rfl dX3_indexOf_19 ?_
        obtain ⟨v3, ev3, h⟩ := bd h
        refine g_aaload X (pc := 20) (k := 4) rfl rfl (by decide) ev3 dX3_indexOf_20 ?_
        refine g_astore_n X (pc := 21) [(3, pR v3), (0, pR (some a0)), (1, pI a1), (2, pI a2)] rfl (lt_n hn (by decide)) rfl dX3_indexOf_21 ?_
        refine g_aload_n X (pc := 22) 0 rfl rfl dX3_indexOf_22 ?_
        refine g_ifnull X (pc := 23) (tgt := 44) dX3_indexOf_23 (by decide) (fun hc => ?_) (fun hc => ?_)
        · have h := (if_pos hc).symm.trans h
          refine g_sub [1, 2, 3] [(0, pR (some a0)), (1, pI a1), (2, pI a2)] rfl ?_
          exact wX3_indexOf_L44 X hE hn fu (fun b0 b1 b2 M => fX3_indexOf_L2 fu  n b0 b1 b2 M) ih a0 a1 a2 M h
        · have h := (if_neg hc).symm.trans h
          refine g_aload_n X (pc := 26) 0 rfl rfl dX3_indexOf_26 ?_
          refine g_aload_n X (pc := 27) 1 rfl rfl dX3_indexOf_27 ?_
          obtain ⟨v4, ev4, h⟩ := bd h
          refine g_getI X (pc := 28) fk_3_1 rfl rfl ev4 tb_161 dX3_indexOf_28 ?_
          refine g_iload_n X (pc := 31) 2 rfl rfl dX3_indexOf_31 ?_
          refine g_aload_n X (pc := 32) 1 rfl rfl dX3_indexOf_32 ?_
          obtain ⟨v5, ev5, h⟩ := bd h
          refine g_getI X (pc := 33) fk_3_12 rfl rfl ev5 tb_186 dX3_indexOf_33 ?_
          obtain ⟨q6, eq6, h⟩ := bd h
          obtain ⟨v8, M7, eM7, h⟩ := b2d h
          refine g_callV X (pc := 36) (M' := M7) (ro := some (pI v8)) (c := 2) rfl (by decide) (as := [pI v4, pI a1, pI v5]) (as' := [pI v5, pI a1, pI v4]) (st := []) eq6 (ctX2_isOf _ _ _ _ _ _ fu q6 v4 a1 v5 M _ eM7) tb_737 tb_734 tb_735 tb_736 tb_17 ⟨rfl, hyX2_isOf⟩ rfl rfl ⟨by decide, by decide⟩ (Nat.le_of_ble_eq_true rfl) dX3_indexOf_36 ?_
          refine g_if_eq X (pc := 39) (tgt := 44) dX3_indexOf_39 (by decide) (fun hc => ?_) (fun hc => ?_)
          · have h := (if_pos hc).symm.trans h
            refine g_sub [1, 2, 3] [(0, pR (some a0)), (1, pI a1), (2, pI a2)] rfl ?_
            exact wX3_indexOf_L44 X hE hn fu (fun b0 b1 b2 M => fX3_indexOf_L2 fu  n b0 b1 b2 M) ih a0 a1 a2 M7 h
          · have h := (if_neg hc).symm.trans h
            refine g_iload_n X (pc := 42) 3 rfl rfl dX3_indexOf_42 ?_
            obtain rfl := Option.some.inj h
            exact g_ireturn X hE dX3_indexOf_43
theorem wX3_indexOf {x : GX} {n0 sl0 : Nat} (X : Cx x cX3_indexOf RX3 (some .int) n0 sl0 2 47) {out : Int32 × Mm} (hE : Ends x n0 sl0 (some (pI out.1)) out.2) (hn : xn x = 4) (fu : Nat)   (a0 : Nat) (a1 : Int32)  (M : Mm) (h : fX3_indexOf fu  a0 a1 M = some out) : Gw x M 0 [(0, pR (some a0)), (1, pI a1)] [] := by
  unfold fX3_indexOf at h
  refine g_iconst X (pc := 0) (v := 0) dX3_indexOf_0 (by decide) ?_
  refine g_istore_n X (pc := 1) [(2, pI (0 : Int32)), (0, pR (some a0)), (1, pI a1)] rfl (lt_n hn (by decide)) rfl dX3_indexOf_1 ?_
  refine g_sub [1, 2, 0] [(0, pR (some a0)), (1, pI a1), (2, pI (0 : Int32))] rfl ?_
  exact wX3_indexOf_L2 X hE hn fu   fu a0 a1 (0 : Int32) M h
theorem hyX3_indexOf : yX3_indexOf.cls ≠ "java/lang/invoke/MethodHandle" ∧ yX3_indexOf.cls ≠ "java/lang/invoke/VarHandle" ∧ (parseMethodDescriptor yX3_indexOf.desc).map (fun d => d.parameters.length) = some 1 := ⟨by decide +kernel, by decide +kernel, by decide +kernel⟩
theorem ctX3_indexOf (l : Launch) (E : Nat → Nat) (D : va_G) (dA : Nat → ClassId) (lo : Nat) (H0 : Heap) (fu : Nat) (a0 : Nat) (a1 : Int32) (M : Mm) (out : Int32 × Mm) (h : fX3_indexOf fu a0 a1 M = some out) : Ct l E D dA lo H0 yX3_indexOf cX3_indexOf 4 (some .int) 2 47 [pR (some a0), pI a1] M (some (pI out.1)) out.2 := by
  refine ct_of (by decide +kernel) (Nat.le_of_ble_eq_true rfl) ?_
  intro x hl he hd ha ho hh hn hin X hE
  exact wX3_indexOf X hE hn fu a0 a1 M h
/-! WebHost$Intake.dropDatagram(I)V -/
def fX3_dropDatagram_L59 (fu : Nat)  (a0 : Nat) (a2 : Option Nat)  (M : Mm) : Option (Mm) :=
    (gI M 3 208 (some a0)).bind fun v1 =>
    (pF M 3 208 (some a0) (v1 - (1 : Int32))).bind fun M2 =>
    (gR M2 3 207 (some a0)).bind fun v3 =>
    (gI M2 3 208 (some a0)).bind fun v4 =>
    (pB M2 2 v3 v4 a2).bind fun M5 =>
    some M5
def fX3_dropDatagram_L22 (fu : Nat)  : Nat → Nat → Option Nat → Int32 → Mm → Option (Mm)
  | 0, _, _, _, _ => none
  | n + 1, a0, a2, a3, M =>
    (gI M 3 208 (some a0)).bind fun v1 =>
    if v1 ≤ (a3 + (1 : Int32)) then (
    fX3_dropDatagram_L59 fu  a0 a2 M)
    else (
    if (4 : Int32) ≤ (a3 + (1 : Int32)) then (
    fX3_dropDatagram_L59 fu  a0 a2 M)
    else (
    (gR M 3 207 (some a0)).bind fun v2 =>
    (gR M 3 207 (some a0)).bind fun v3 =>
    (gB M 112 v3 (a3 + (1 : Int32))).bind fun v4 =>
    (pB M 2 v2 a3 v4).bind fun M5 =>
    fX3_dropDatagram_L22 fu  n a0 a2 (a3 + (1 : Int32)) M5))
def fX3_dropDatagram (fu : Nat)  (a0 : Nat) (a1 : Int32)  (M : Mm) : Option (Mm) :=
    if a1 < 0 then (
    some M)
    else (
    (gI M 3 208 (some a0)).bind fun v1 =>
    if a1 < v1 then (
    (gR M 3 207 (some a0)).bind fun v2 =>
    (gB M 112 v2 a1).bind fun v3 =>
    fX3_dropDatagram_L22 fu  fu a0 v3 a1 M)
    else (
    some M))
theorem dX3_dropDatagram_0 : decode cX3_dropDatagram 0 = .ok (.iload_n 1, 1) := by decide +kernel
theorem dX3_dropDatagram_1 : decode cX3_dropDatagram 1 = .ok (.ifCond .lt 11, 3) := by decide +kernel
theorem dX3_dropDatagram_4 : decode cX3_dropDatagram 4 = .ok (.iload_n 1, 1) := by decide +kernel
theorem dX3_dropDatagram_5 : decode cX3_dropDatagram 5 = .ok (.aload_n 0, 1) := by decide +kernel
theorem dX3_dropDatagram_6 : decode cX3_dropDatagram 6 = .ok (.getfield 29, 3) := by decide +kernel
theorem dX3_dropDatagram_9 : decode cX3_dropDatagram 9 = .ok (.if_icmp .lt 4, 3) := by decide +kernel
theorem dX3_dropDatagram_12 : decode cX3_dropDatagram 12 = .ok (.return_, 1) := by decide +kernel
theorem dX3_dropDatagram_13 : decode cX3_dropDatagram 13 = .ok (.aload_n 0, 1) := by decide +kernel
theorem dX3_dropDatagram_14 : decode cX3_dropDatagram 14 = .ok (.getfield 25, 3) := by decide +kernel
theorem dX3_dropDatagram_17 : decode cX3_dropDatagram 17 = .ok (.iload_n 1, 1) := by decide +kernel
theorem dX3_dropDatagram_18 : decode cX3_dropDatagram 18 = .ok (.aaload, 1) := by decide +kernel
theorem dX3_dropDatagram_19 : decode cX3_dropDatagram 19 = .ok (.astore_n 2, 1) := by decide +kernel
theorem dX3_dropDatagram_20 : decode cX3_dropDatagram 20 = .ok (.iload_n 1, 1) := by decide +kernel
theorem dX3_dropDatagram_21 : decode cX3_dropDatagram 21 = .ok (.istore_n 3, 1) := by decide +kernel
theorem dX3_dropDatagram_22 : decode cX3_dropDatagram 22 = .ok (.iload_n 3, 1) := by decide +kernel
theorem dX3_dropDatagram_23 : decode cX3_dropDatagram 23 = .ok (.iconst 1, 1) := by decide +kernel
theorem dX3_dropDatagram_24 : decode cX3_dropDatagram 24 = .ok (.iadd, 1) := by decide +kernel
theorem dX3_dropDatagram_25 : decode cX3_dropDatagram 25 = .ok (.aload_n 0, 1) := by decide +kernel
theorem dX3_dropDatagram_26 : decode cX3_dropDatagram 26 = .ok (.getfield 29, 3) := by decide +kernel
theorem dX3_dropDatagram_29 : decode cX3_dropDatagram 29 = .ok (.if_icmp .ge 30, 3) := by decide +kernel
theorem dX3_dropDatagram_32 : decode cX3_dropDatagram 32 = .ok (.iload_n 3, 1) := by decide +kernel
theorem dX3_dropDatagram_33 : decode cX3_dropDatagram 33 = .ok (.iconst 1, 1) := by decide +kernel
theorem dX3_dropDatagram_34 : decode cX3_dropDatagram 34 = .ok (.iadd, 1) := by decide +kernel
theorem dX3_dropDatagram_35 : decode cX3_dropDatagram 35 = .ok (.iconst 4, 1) := by decide +kernel
theorem dX3_dropDatagram_36 : decode cX3_dropDatagram 36 = .ok (.if_icmp .ge 23, 3) := by decide +kernel
theorem dX3_dropDatagram_39 : decode cX3_dropDatagram 39 = .ok (.aload_n 0, 1) := by decide +kernel
theorem dX3_dropDatagram_40 : decode cX3_dropDatagram 40 = .ok (.getfield 25, 3) := by decide +kernel
theorem dX3_dropDatagram_43 : decode cX3_dropDatagram 43 = .ok (.iload_n 3, 1) := by decide +kernel
theorem dX3_dropDatagram_44 : decode cX3_dropDatagram 44 = .ok (.aload_n 0, 1) := by decide +kernel
theorem dX3_dropDatagram_45 : decode cX3_dropDatagram 45 = .ok (.getfield 25, 3) := by decide +kernel
theorem dX3_dropDatagram_48 : decode cX3_dropDatagram 48 = .ok (.iload_n 3, 1) := by decide +kernel
theorem dX3_dropDatagram_49 : decode cX3_dropDatagram 49 = .ok (.iconst 1, 1) := by decide +kernel
theorem dX3_dropDatagram_50 : decode cX3_dropDatagram 50 = .ok (.iadd, 1) := by decide +kernel
theorem dX3_dropDatagram_51 : decode cX3_dropDatagram 51 = .ok (.aaload, 1) := by decide +kernel
theorem dX3_dropDatagram_52 : decode cX3_dropDatagram 52 = .ok (.aastore, 1) := by decide +kernel
theorem dX3_dropDatagram_53 : decode cX3_dropDatagram 53 = .ok (.iinc 3 1, 3) := by decide +kernel
theorem dX3_dropDatagram_56 : decode cX3_dropDatagram 56 = .ok (.goto (-34), 3) := by decide +kernel
theorem dX3_dropDatagram_59 : decode cX3_dropDatagram 59 = .ok (.aload_n 0, 1) := by decide +kernel
theorem dX3_dropDatagram_60 : decode cX3_dropDatagram 60 = .ok (.dup, 1) := by decide +kernel
theorem dX3_dropDatagram_61 : decode cX3_dropDatagram 61 = .ok (.getfield 29, 3) := by decide +kernel
theorem dX3_dropDatagram_64 : decode cX3_dropDatagram 64 = .ok (.iconst 1, 1) := by decide +kernel
theorem dX3_dropDatagram_65 : decode cX3_dropDatagram 65 = .ok (.isub, 1) := by decide +kernel
theorem dX3_dropDatagram_66 : decode cX3_dropDatagram 66 = .ok (.putfield 29, 3) := by decide +kernel
theorem dX3_dropDatagram_69 : decode cX3_dropDatagram 69 = .ok (.aload_n 0, 1) := by decide +kernel
theorem dX3_dropDatagram_70 : decode cX3_dropDatagram 70 = .ok (.getfield 25, 3) := by decide +kernel
theorem dX3_dropDatagram_73 : decode cX3_dropDatagram 73 = .ok (.aload_n 0, 1) := by decide +kernel
theorem dX3_dropDatagram_74 : decode cX3_dropDatagram 74 = .ok (.getfield 29, 3) := by decide +kernel
theorem dX3_dropDatagram_77 : decode cX3_dropDatagram 77 = .ok (.aload_n 2, 1) := by decide +kernel
theorem dX3_dropDatagram_78 : decode cX3_dropDatagram 78 = .ok (.aastore, 1) := by decide +kernel
theorem dX3_dropDatagram_79 : decode cX3_dropDatagram 79 = .ok (.return_, 1) := by decide +kernel
theorem wX3_dropDatagram_L59 {x : GX} {n0 sl0 : Nat} (X : Cx x cX3_dropDatagram RX3 none n0 sl0 0 0) {out : Mm} (hE : Ends x n0 sl0 none out) (hn : xn x = 4) (fu : Nat)   (a0 : Nat) (a2 : Option Nat)  (M : Mm) (h : fX3_dropDatagram_L59 fu  a0 a2 M = some out) : Gw x M 59 [(0, pR (some a0)), (2, pR a2)] [] := by
  unfold fX3_dropDatagram_L59 at h
  refine g_aload_n X (pc := 59) 0 rfl rfl dX3_dropDatagram_59 ?_
  refine g_dup X (pc := 60) rfl dX3_dropDatagram_60 ?_
  obtain ⟨v1, ev1, h⟩ := bd h
  refine g_getI X (pc := 61) fk_3_16 rfl rfl ev1 tb_190 dX3_dropDatagram_61 ?_
  refine g_iconst X (pc := 64) (v := 1) dX3_dropDatagram_64 (by decide) ?_
  refine g_isub X (pc := 65) dX3_dropDatagram_65 ?_
  obtain ⟨M2, eM2, h⟩ := bd h
  refine g_putI X (pc := 66) fk_3_16 rfl rfl rfl eM2 tb_190 (Or.inl rfl) dX3_dropDatagram_66 ?_
  refine g_aload_n X (pc := 69) 0 rfl rfl dX3_dropDatagram_69 ?_
  obtain ⟨v3, ev3, h⟩ := bd h
  refine g_getR X (pc := 70) fk_3_15 rfl rfl ev3 tb_189 dX3_dropDatagram_70 ?_
  refine g_aload_n X (pc := 73) 0 rfl rfl dX3_dropDatagram_73 ?_
  obtain ⟨v4, ev4, h⟩ := bd h
  refine g_getI X (pc := 74) fk_3_16 rfl rfl ev4 tb_190 dX3_dropDatagram_74 ?_
  refine g_aload_n X (pc := 77) 1 rfl rfl dX3_dropDatagram_77 ?_
  obtain ⟨M5, eM5, h⟩ := bd h
  refine g_aastore X (pc := 78) (c := 2) (k := 4) rfl (by decide) rfl eM5 dX3_dropDatagram_78 ?_
  obtain rfl := Option.some.inj h
  exact g_return X hE dX3_dropDatagram_79
theorem wX3_dropDatagram_L22 {x : GX} {n0 sl0 : Nat} (X : Cx x cX3_dropDatagram RX3 none n0 sl0 0 0) {out : Mm} (hE : Ends x n0 sl0 none out) (hn : xn x = 4) (fu : Nat)   : ∀ (n : Nat) (a0 : Nat) (a2 : Option Nat) (a3 : Int32)  (M : Mm), fX3_dropDatagram_L22 fu  n a0 a2 a3 M = some out → Gw x M 22 [(0, pR (some a0)), (2, pR a2), (3, pI a3)] [] := by
  intro n
  induction n with
  | zero =>
    intro a0 a2 a3 M h
    have h : (none : Option (Mm)) = some out := h
    cases h
  | succ n ih =>
    intro a0 a2 a3 M h
    rw [fX3_dropDatagram_L22] at h
    refine g_iload_n X (pc := 22) 2 rfl rfl dX3_dropDatagram_22 ?_
    refine g_iconst X (pc := 23) (v := 1) dX3_dropDatagram_23 (by decide) ?_
    refine g_iadd X (pc := 24) dX3_dropDatagram_24 ?_
    refine g_aload_n X (pc := 25) 0 rfl rfl dX3_dropDatagram_25 ?_
    obtain ⟨v1, ev1, h⟩ := bd h
    refine g_getI X (pc := 26) fk_3_16 rfl rfl ev1 tb_190 dX3_dropDatagram_26 ?_
    refine g_icmp_ge X (pc := 29) (tgt := 59) dX3_dropDatagram_29 (by decide) (fun hc => ?_) (fun hc => ?_)
    · have h := (if_pos hc).symm.trans h
      refine g_sub [0, 1] [(0, pR (some a0)), (2, pR a2)] rfl ?_
      exact wX3_dropDatagram_L59 X hE hn fu   a0 a2 M h
    · have h := (if_neg hc).symm.trans h
      refine g_iload_n X (pc := 32) 2 rfl rfl dX3_dropDatagram_32 ?_
      refine g_iconst X (pc := 33) (v := 1) dX3_dropDatagram_33 (by decide) ?_
      refine g_iadd X (pc := 34) dX3_dropDatagram_34 ?_
      refine g_iconst X (pc := 35) (v := 4) dX3_dropDatagram_35 (by decide) ?_
      refine g_icmp_ge X (pc := 36) (tgt := 59) dX3_dropDatagram_36 (by decide) (fun hc => ?_) (fun hc => ?_)
      · have h := (if_pos hc).symm.trans h
        refine g_sub [0, 1] [(0, pR (some a0)), (2, pR a2)] rfl ?_
        exact wX3_dropDatagram_L59 X hE hn fu   a0 a2 M h
      · have h := (if_neg hc).symm.trans h
        refine g_aload_n X (pc := 39) 0 rfl rfl dX3_dropDatagram_39 ?_
        obtain ⟨v2, ev2, h⟩ := bd h
        refine g_getR X (pc := 40) fk_3_15 rfl rfl ev2 tb_189 dX3_dropDatagram_40 ?_
        refine g_iload_n X (pc := 43) 2 rfl rfl dX3_dropDatagram_43 ?_
        refine g_aload_n X (pc := 44) 0 rfl rfl dX3_dropDatagram_44 ?_
        obtain ⟨v3, ev3, h⟩ := bd h
        refine g_getR X (pc := 45) fk_3_15 rfl rfl ev3 tb_189 dX3_dropDatagram_45 ?_
        refine g_iload_n X (pc := 48) 2 rfl rfl dX3_dropDatagram_48 ?_
        refine g_iconst X (pc := 49) (v := 1) dX3_dropDatagram_49 (by decide) ?_
        refine g_iadd X (pc := 50) dX3_dropDatagram_50 ?_
        obtain ⟨v4, ev4, h⟩ := bd h
        refine g_aaload X (pc := 51) (k := 4) rfl rfl (by decide) ev4 dX3_dropDatagram_51 ?_
        obtain ⟨M5, eM5, h⟩ := bd h
        refine g_aastore X (pc := 52) (c := 2) (k := 4) rfl (by decide) rfl eM5 dX3_dropDatagram_52 ?_
        refine g_iinc X (pc := 53) 2 [(3, pI (a3 + (1 : Int32))), (0, pR (some a0)), (2, pR a2)] rfl (iinc_e (by decide)) (lt_n hn (by decide)) rfl dX3_dropDatagram_53 ?_
        refine g_goto X (pc := 56) (tgt := 22) dX3_dropDatagram_56 (by decide) ?_
        refine g_sub [1, 2, 0] [(0, pR (some a0)), (2, pR a2), (3, pI (a3 + (1 : Int32)))] rfl ?_
        exact ih a0 a2 (a3 + (1 : Int32)) M5 h
theorem wX3_dropDatagram {x : GX} {n0 sl0 : Nat} (X : Cx x cX3_dropDatagram RX3 none n0 sl0 0 0) {out : Mm} (hE : Ends x n0 sl0 none out) (hn : xn x = 4) (fu : Nat)   (a0 : Nat) (a1 : Int32)  (M : Mm) (h : fX3_dropDatagram fu  a0 a1 M = some out) : Gw x M 0 [(0, pR (some a0)), (1, pI a1)] [] := by
  unfold fX3_dropDatagram at h
  refine g_iload_n X (pc := 0) 1 rfl rfl dX3_dropDatagram_0 ?_
  refine g_if_lt X (pc := 1) (tgt := 12) dX3_dropDatagram_1 (by decide) (fun hc => ?_) (fun hc => ?_)
  · have h := (if_pos hc).symm.trans h
    obtain rfl := Option.some.inj h
    exact g_return X hE dX3_dropDatagram_12
  · have h := (if_neg hc).symm.trans h
    refine g_iload_n X (pc := 4) 1 rfl rfl dX3_dropDatagram_4 ?_
    refine g_aload_n X (pc := 5) 0 rfl rfl dX3_dropDatagram_5 ?_
    obtain ⟨v1, ev1, h⟩ := bd h
    refine g_getI X (pc := 6) fk_3_16 rfl rfl ev1 tb_190 dX3_dropDatagram_6 ?_
    refine g_icmp_lt X (pc := 9) (tgt := 13) dX3_dropDatagram_9 (by decide) (fun hc => ?_) (fun hc => ?_)
    · have h := (if_pos hc).symm.trans h
      refine g_aload_n X (pc := 13) 0 rfl rfl dX3_dropDatagram_13 ?_
      obtain ⟨v2, ev2, h⟩ := bd h
      refine g_getR X (pc := 14) fk_3_15 rfl rfl ev2 tb_189 dX3_dropDatagram_14 ?_
      refine g_iload_n X (pc := 17) 1 rfl rfl dX3_dropDatagram_17 ?_
      obtain ⟨v3, ev3, h⟩ := bd h
      refine g_aaload X (pc := 18) (k := 4) rfl rfl (by decide) ev3 dX3_dropDatagram_18 ?_
      refine g_astore_n X (pc := 19) [(2, pR v3), (0, pR (some a0)), (1, pI a1)] rfl (lt_n hn (by decide)) rfl dX3_dropDatagram_19 ?_
      refine g_iload_n X (pc := 20) 2 rfl rfl dX3_dropDatagram_20 ?_
      refine g_istore_n X (pc := 21) [(3, pI a1), (2, pR v3), (0, pR (some a0)), (1, pI a1)] rfl (lt_n hn (by decide)) rfl dX3_dropDatagram_21 ?_
      refine g_sub [2, 1, 0] [(0, pR (some a0)), (2, pR v3), (3, pI a1)] rfl ?_
      exact wX3_dropDatagram_L22 X hE hn fu   fu a0 v3 a1 M h
    · have h := (if_neg hc).symm.trans h
      obtain rfl := Option.some.inj h
      exact g_return X hE dX3_dropDatagram_12
theorem hyX3_dropDatagram : yX3_dropDatagram.cls ≠ "java/lang/invoke/MethodHandle" ∧ yX3_dropDatagram.cls ≠ "java/lang/invoke/VarHandle" ∧ (parseMethodDescriptor yX3_dropDatagram.desc).map (fun d => d.parameters.length) = some 1 := ⟨by decide +kernel, by decide +kernel, by decide +kernel⟩
theorem ctX3_dropDatagram (l : Launch) (E : Nat → Nat) (D : va_G) (dA : Nat → ClassId) (lo : Nat) (H0 : Heap) (fu : Nat) (a0 : Nat) (a1 : Int32) (M : Mm) (out : Mm) (h : fX3_dropDatagram fu a0 a1 M = some out) : Ct l E D dA lo H0 yX3_dropDatagram cX3_dropDatagram 4 none 0 0 [pR (some a0), pI a1] M none out := by
  refine ct_of (by decide +kernel) (Nat.le_of_ble_eq_true rfl) ?_
  intro x hl he hd ha ho hh hn hin X hE
  exact wX3_dropDatagram X hE hn fu a0 a1 M h
/-! WebHost$Intake.gather(II)Z -/
def fX3_gather_L157 (fu : Nat)  (a0 : Nat) (a5 : Int32) (a6 : Option Nat)  (M : Mm) : Option (Int32 × Mm) :=
    (rc M 2 a6).bind fun q1 =>
    b2 (fX2_isWhole fu q1  M) fun v3 M2 =>
    if v3 = 0 then (
    rN .boolean (0 : Int32) M2)
    else (
    (rc M2 3 (some a0)).bind fun q4 =>
    (fX3_dropDatagram fu q4 a5 M2).bind fun M5 =>
    (gR M5 3 205 (some a0)).bind fun v6 =>
    (gR M5 10 640 v6).bind fun v7 =>
    (gA M5 101 v7 (1 : Int32)).bind fun v8 =>
    (pA M5 101 v7 (1 : Int32) (v8 + (1 : Int32))).bind fun M9 =>
    (gR M9 2 128 a6).bind fun v10 =>
    (pG M9 3 192 (some a0) v10).bind fun M11 =>
    (pF M11 3 202 (some a0) (0 : Int32)).bind fun M12 =>
    (gI M12 2 133 a6).bind fun v13 =>
    (pF M12 3 203 (some a0) v13).bind fun M14 =>
    rN .boolean (1 : Int32) M14)
def fX3_gather_L47 (fu : Nat)  (a0 : Nat) (a1 : Int32) (a3 : Int32) (a4 : Int32)  (M : Mm) : Option (Int32 × Mm) :=
    (gI M 3 203 (some a0)).bind fun v1 =>
    if (a4 + v1) ≤ (4096 : Int32) then (
    (rc M 3 (some a0)).bind fun q2 =>
    b2 (fX3_indexOf fu q2 a1 M) fun v4 M3 =>
    if v4 < 0 then (
    rN .boolean (0 : Int32) M3)
    else (
    if v4 < (4 : Int32) then (
    (gR M3 3 207 (some a0)).bind fun v5 =>
    (gB M3 112 v5 v4).bind fun v6 =>
    if v6 = none then (
    rN .boolean (0 : Int32) M3)
    else (
    (gI M3 3 203 (some a0)).bind fun v7 =>
    (rc M3 2 v6).bind fun q8 =>
    b2 (fX2_agrees fu q8 (a4 + v7) a3 M3) fun v10 M9 =>
    if v10 = 0 then (
    (rc M9 3 (some a0)).bind fun q18 =>
    (fX3_dropDatagram fu q18 v4 M9).bind fun M19 =>
    rN .boolean (0 : Int32) M19)
    else (
    (gR M9 3 192 (some a0)).bind fun v11 =>
    (gI M9 3 202 (some a0)).bind fun v12 =>
    (gI M9 3 203 (some a0)).bind fun v13 =>
    (rc M9 2 v6).bind fun q14 =>
    (fX2_put fu q14 v11 v12 a4 v13 M9).bind fun M15 =>
    if a3 = 0 then (
    (gI M15 3 203 (some a0)).bind fun v16 =>
    (pF M15 2 133 v6 (a4 + v16)).bind fun M17 =>
    fX3_gather_L157 fu  a0 v4 v6 M17)
    else (
    fX3_gather_L157 fu  a0 v4 v6 M15))))
    else (
    rN .boolean (0 : Int32) M3)))
    else (
    rN .boolean (0 : Int32) M)
def fX3_gather_L13 (fu : Nat)  (a0 : Nat) (a1 : Int32) (a2 : Int32) (s0 : Int32) (M : Mm) : Option (Int32 × Mm) :=
    if s0 = 0 then (
    fX3_gather_L47 fu  a0 a1 s0 ((a2 &&& (8191 : Int32)) * (8 : Int32)) M)
    else (
    (gI M 3 203 (some a0)).bind fun v1 =>
    if v1 < (8 : Int32) then (
    rN .boolean (0 : Int32) M)
    else (
    (gI M 3 203 (some a0)).bind fun v2 =>
    if (irm v2 (8 : Int32)) = 0 then (
    fX3_gather_L47 fu  a0 a1 s0 ((a2 &&& (8191 : Int32)) * (8 : Int32)) M)
    else (
    rN .boolean (0 : Int32) M)))
def fX3_gather (fu : Nat)  (a0 : Nat) (a1 : Int32) (a2 : Int32)  (M : Mm) : Option (Int32 × Mm) :=
    if (a2 &&& (8192 : Int32)) = 0 then (
    fX3_gather_L13 fu  a0 a1 a2 (0 : Int32) M)
    else (
    fX3_gather_L13 fu  a0 a1 a2 (1 : Int32) M)
theorem dX3_gather_0 : decode cX3_gather 0 = .ok (.iload_n 2, 1) := by decide +kernel
theorem dX3_gather_1 : decode cX3_gather 1 = .ok (.sipush 8192, 3) := by decide +kernel
theorem dX3_gather_4 : decode cX3_gather 4 = .ok (.iand, 1) := by decide +kernel
theorem dX3_gather_5 : decode cX3_gather 5 = .ok (.ifCond .eq 7, 3) := by decide +kernel
theorem dX3_gather_8 : decode cX3_gather 8 = .ok (.iconst 1, 1) := by decide +kernel
theorem dX3_gather_9 : decode cX3_gather 9 = .ok (.goto 4, 3) := by decide +kernel
theorem dX3_gather_12 : decode cX3_gather 12 = .ok (.iconst 0, 1) := by decide +kernel
theorem dX3_gather_13 : decode cX3_gather 13 = .ok (.istore_n 3, 1) := by decide +kernel
theorem dX3_gather_14 : decode cX3_gather 14 = .ok (.iload_n 2, 1) := by decide +kernel
theorem dX3_gather_15 : decode cX3_gather 15 = .ok (.sipush 8191, 3) := by decide +kernel
theorem dX3_gather_18 : decode cX3_gather 18 = .ok (.iand, 1) := by decide +kernel
theorem dX3_gather_19 : decode cX3_gather 19 = .ok (.bipush 8, 2) := by decide +kernel
theorem dX3_gather_21 : decode cX3_gather 21 = .ok (.imul, 1) := by decide +kernel
theorem dX3_gather_22 : decode cX3_gather 22 = .ok (.istore 4, 2) := by decide +kernel
theorem dX3_gather_24 : decode cX3_gather 24 = .ok (.iload_n 3, 1) := by decide +kernel
theorem dX3_gather_25 : decode cX3_gather 25 = .ok (.ifCond .eq 22, 3) := by decide +kernel
theorem dX3_gather_28 : decode cX3_gather 28 = .ok (.aload_n 0, 1) := by decide +kernel
theorem dX3_gather_29 : decode cX3_gather 29 = .ok (.getfield 80, 3) := by decide +kernel
theorem dX3_gather_32 : decode cX3_gather 32 = .ok (.bipush 8, 2) := by decide +kernel
theorem dX3_gather_34 : decode cX3_gather 34 = .ok (.if_icmp .lt 26, 3) := by decide +kernel
theorem dX3_gather_37 : decode cX3_gather 37 = .ok (.aload_n 0, 1) := by decide +kernel
theorem dX3_gather_38 : decode cX3_gather 38 = .ok (.getfield 80, 3) := by decide +kernel
theorem dX3_gather_41 : decode cX3_gather 41 = .ok (.bipush 8, 2) := by decide +kernel
theorem dX3_gather_43 : decode cX3_gather 43 = .ok (.irem, 1) := by decide +kernel
theorem dX3_gather_44 : decode cX3_gather 44 = .ok (.ifCond .ne 16, 3) := by decide +kernel
theorem dX3_gather_47 : decode cX3_gather 47 = .ok (.iload 4, 2) := by decide +kernel
theorem dX3_gather_49 : decode cX3_gather 49 = .ok (.aload_n 0, 1) := by decide +kernel
theorem dX3_gather_50 : decode cX3_gather 50 = .ok (.getfield 80, 3) := by decide +kernel
theorem dX3_gather_53 : decode cX3_gather 53 = .ok (.iadd, 1) := by decide +kernel
theorem dX3_gather_54 : decode cX3_gather 54 = .ok (.sipush 4096, 3) := by decide +kernel
theorem dX3_gather_57 : decode cX3_gather 57 = .ok (.if_icmp .le 5, 3) := by decide +kernel
theorem dX3_gather_60 : decode cX3_gather 60 = .ok (.iconst 0, 1) := by decide +kernel
theorem dX3_gather_61 : decode cX3_gather 61 = .ok (.ireturn, 1) := by decide +kernel
theorem dX3_gather_62 : decode cX3_gather 62 = .ok (.aload_n 0, 1) := by decide +kernel
theorem dX3_gather_63 : decode cX3_gather 63 = .ok (.iload_n 1, 1) := by decide +kernel
theorem dX3_gather_64 : decode cX3_gather 64 = .ok (.invokevirtual 87, 3) := by decide +kernel
theorem dX3_gather_67 : decode cX3_gather 67 = .ok (.istore 5, 2) := by decide +kernel
theorem dX3_gather_69 : decode cX3_gather 69 = .ok (.iload 5, 2) := by decide +kernel
theorem dX3_gather_71 : decode cX3_gather 71 = .ok (.ifCond .lt 9, 3) := by decide +kernel
theorem dX3_gather_74 : decode cX3_gather 74 = .ok (.iload 5, 2) := by decide +kernel
theorem dX3_gather_76 : decode cX3_gather 76 = .ok (.iconst 4, 1) := by decide +kernel
theorem dX3_gather_77 : decode cX3_gather 77 = .ok (.if_icmp .lt 5, 3) := by decide +kernel
theorem dX3_gather_80 : decode cX3_gather 80 = .ok (.iconst 0, 1) := by decide +kernel
theorem dX3_gather_81 : decode cX3_gather 81 = .ok (.ireturn, 1) := by decide +kernel
theorem dX3_gather_82 : decode cX3_gather 82 = .ok (.aload_n 0, 1) := by decide +kernel
theorem dX3_gather_83 : decode cX3_gather 83 = .ok (.getfield 25, 3) := by decide +kernel
theorem dX3_gather_86 : decode cX3_gather 86 = .ok (.iload 5, 2) := by decide +kernel
theorem dX3_gather_88 : decode cX3_gather 88 = .ok (.aaload, 1) := by decide +kernel
theorem dX3_gather_89 : decode cX3_gather 89 = .ok (.astore 6, 2) := by decide +kernel
theorem dX3_gather_91 : decode cX3_gather 91 = .ok (.aload 6, 2) := by decide +kernel
theorem dX3_gather_93 : decode cX3_gather 93 = .ok (.ifnonnull 5, 3) := by decide +kernel
theorem dX3_gather_96 : decode cX3_gather 96 = .ok (.iconst 0, 1) := by decide +kernel
theorem dX3_gather_97 : decode cX3_gather 97 = .ok (.ireturn, 1) := by decide +kernel
theorem dX3_gather_98 : decode cX3_gather 98 = .ok (.aload 6, 2) := by decide +kernel
theorem dX3_gather_100 : decode cX3_gather 100 = .ok (.iload 4, 2) := by decide +kernel
theorem dX3_gather_102 : decode cX3_gather 102 = .ok (.aload_n 0, 1) := by decide +kernel
theorem dX3_gather_103 : decode cX3_gather 103 = .ok (.getfield 80, 3) := by decide +kernel
theorem dX3_gather_106 : decode cX3_gather 106 = .ok (.iadd, 1) := by decide +kernel
theorem dX3_gather_107 : decode cX3_gather 107 = .ok (.iload_n 3, 1) := by decide +kernel
theorem dX3_gather_108 : decode cX3_gather 108 = .ok (.invokevirtual 91, 3) := by decide +kernel
theorem dX3_gather_111 : decode cX3_gather 111 = .ok (.ifCond .ne 11, 3) := by decide +kernel
theorem dX3_gather_114 : decode cX3_gather 114 = .ok (.aload_n 0, 1) := by decide +kernel
theorem dX3_gather_115 : decode cX3_gather 115 = .ok (.iload 5, 2) := by decide +kernel
theorem dX3_gather_117 : decode cX3_gather 117 = .ok (.invokevirtual 95, 3) := by decide +kernel
theorem dX3_gather_120 : decode cX3_gather 120 = .ok (.iconst 0, 1) := by decide +kernel
theorem dX3_gather_121 : decode cX3_gather 121 = .ok (.ireturn, 1) := by decide +kernel
theorem dX3_gather_122 : decode cX3_gather 122 = .ok (.aload 6, 2) := by decide +kernel
theorem dX3_gather_124 : decode cX3_gather 124 = .ok (.aload_n 0, 1) := by decide +kernel
theorem dX3_gather_125 : decode cX3_gather 125 = .ok (.getfield 19, 3) := by decide +kernel
theorem dX3_gather_128 : decode cX3_gather 128 = .ok (.aload_n 0, 1) := by decide +kernel
theorem dX3_gather_129 : decode cX3_gather 129 = .ok (.getfield 77, 3) := by decide +kernel
theorem dX3_gather_132 : decode cX3_gather 132 = .ok (.iload 4, 2) := by decide +kernel
theorem dX3_gather_134 : decode cX3_gather 134 = .ok (.aload_n 0, 1) := by decide +kernel
theorem dX3_gather_135 : decode cX3_gather 135 = .ok (.getfield 80, 3) := by decide +kernel
theorem dX3_gather_138 : decode cX3_gather 138 = .ok (.invokevirtual 99, 3) := by decide +kernel
theorem dX3_gather_141 : decode cX3_gather 141 = .ok (.iload_n 3, 1) := by decide +kernel
theorem dX3_gather_142 : decode cX3_gather 142 = .ok (.ifCond .ne 15, 3) := by decide +kernel
theorem dX3_gather_145 : decode cX3_gather 145 = .ok (.aload 6, 2) := by decide +kernel
theorem dX3_gather_147 : decode cX3_gather 147 = .ok (.iload 4, 2) := by decide +kernel
theorem dX3_gather_149 : decode cX3_gather 149 = .ok (.aload_n 0, 1) := by decide +kernel
theorem dX3_gather_150 : decode cX3_gather 150 = .ok (.getfield 80, 3) := by decide +kernel
theorem dX3_gather_153 : decode cX3_gather 153 = .ok (.iadd, 1) := by decide +kernel
theorem dX3_gather_154 : decode cX3_gather 154 = .ok (.putfield 103, 3) := by decide +kernel
theorem dX3_gather_157 : decode cX3_gather 157 = .ok (.aload 6, 2) := by decide +kernel
theorem dX3_gather_159 : decode cX3_gather 159 = .ok (.invokevirtual 106, 3) := by decide +kernel
theorem dX3_gather_162 : decode cX3_gather 162 = .ok (.ifCond .ne 5, 3) := by decide +kernel
theorem dX3_gather_165 : decode cX3_gather 165 = .ok (.iconst 0, 1) := by decide +kernel
theorem dX3_gather_166 : decode cX3_gather 166 = .ok (.ireturn, 1) := by decide +kernel
theorem dX3_gather_167 : decode cX3_gather 167 = .ok (.aload_n 0, 1) := by decide +kernel
theorem dX3_gather_168 : decode cX3_gather 168 = .ok (.iload 5, 2) := by decide +kernel
theorem dX3_gather_170 : decode cX3_gather 170 = .ok (.invokevirtual 95, 3) := by decide +kernel
theorem dX3_gather_173 : decode cX3_gather 173 = .ok (.aload_n 0, 1) := by decide +kernel
theorem dX3_gather_174 : decode cX3_gather 174 = .ok (.getfield 9, 3) := by decide +kernel
theorem dX3_gather_177 : decode cX3_gather 177 = .ok (.getfield 110, 3) := by decide +kernel
theorem dX3_gather_180 : decode cX3_gather 180 = .ok (.iconst 1, 1) := by decide +kernel
theorem dX3_gather_181 : decode cX3_gather 181 = .ok (.dup2, 1) := by decide +kernel
theorem dX3_gather_182 : decode cX3_gather 182 = .ok (.iaload, 1) := by decide +kernel
theorem dX3_gather_183 : decode cX3_gather 183 = .ok (.iconst 1, 1) := by decide +kernel
theorem dX3_gather_184 : decode cX3_gather 184 = .ok (.iadd, 1) := by decide +kernel
theorem dX3_gather_185 : decode cX3_gather 185 = .ok (.iastore, 1) := by decide +kernel
theorem dX3_gather_186 : decode cX3_gather 186 = .ok (.aload_n 0, 1) := by decide +kernel
theorem dX3_gather_187 : decode cX3_gather 187 = .ok (.aload 6, 2) := by decide +kernel
theorem dX3_gather_189 : decode cX3_gather 189 = .ok (.getfield 116, 3) := by decide +kernel
theorem dX3_gather_192 : decode cX3_gather 192 = .ok (.putfield 19, 3) := by decide +kernel
theorem dX3_gather_195 : decode cX3_gather 195 = .ok (.aload_n 0, 1) := by decide +kernel
theorem dX3_gather_196 : decode cX3_gather 196 = .ok (.iconst 0, 1) := by decide +kernel
theorem dX3_gather_197 : decode cX3_gather 197 = .ok (.putfield 77, 3) := by decide +kernel
theorem dX3_gather_200 : decode cX3_gather 200 = .ok (.aload_n 0, 1) := by decide +kernel
theorem dX3_gather_201 : decode cX3_gather 201 = .ok (.aload 6, 2) := by decide +kernel
theorem dX3_gather_203 : decode cX3_gather 203 = .ok (.getfield 103, 3) := by decide +kernel
theorem dX3_gather_206 : decode cX3_gather 206 = .ok (.putfield 80, 3) := by decide +kernel
theorem dX3_gather_209 : decode cX3_gather 209 = .ok (.iconst 1, 1) := by decide +kernel
theorem dX3_gather_210 : decode cX3_gather 210 = .ok (.ireturn, 1) := by decide +kernel
theorem wX3_gather_L157 {x : GX} {n0 sl0 : Nat} (X : Cx x cX3_gather RX3 (some .boolean) n0 sl0 3 70) {out : Int32 × Mm} (hE : Ends x n0 sl0 (some (pI out.1)) out.2) (hn : xn x = 7) (fu : Nat)   (a0 : Nat) (a5 : Int32) (a6 : Option Nat)  (M : Mm) (h : fX3_gather_L157 fu  a0 a5 a6 M = some out) : Gw x M 157 [(0, pR (some a0)), (5, pI a5), (6, pR a6)] [] := by
  unfold fX3_gather_L157 at h
  refine g_aload X (pc := 157) 2 rfl dX3_gather_157 ?_
  obtain ⟨q1, eq1, h⟩ := bd h
  obtain ⟨v3, M2, eM2, h⟩ := b2d h
  refine g_callV X (pc := 159) (M' := M2) (ro := some (pI v3)) (c := 2) rfl (by decide) (as := []) (as' := []) (st := []) eq1 (ctX2_isWhole _ _ _ _ _ _ fu q1  M _ eM2) tb_792 tb_789 tb_790 tb_791 tb_17 ⟨rfl, hyX2_isWhole⟩ rfl rfl ⟨by decide, by decide⟩ (Nat.le_of_ble_eq_true rfl) dX3_gather_159 ?_
  refine g_if_ne X (pc := 162) (tgt := 167) dX3_gather_162 (by decide) (fun hc => ?_) (fun hc => ?_)
  · have h := (if_neg hc).symm.trans h
    refine g_aload_n X (pc := 167) 0 rfl rfl dX3_gather_167 ?_
    refine g_iload X (pc := 168) 1 rfl dX3_gather_168 ?_
    obtain ⟨q4, eq4, h⟩ := bd h
    obtain ⟨M5, eM5, h⟩ := bd h
    refine g_callV X (pc := 170) (M' := M5) (ro := none) (c := 3) rfl (by decide) (as := [pI a5]) (as' := [pI a5]) (st := []) eq4 (ctX3_dropDatagram _ _ _ _ _ _ fu q4 a5 M2 _ eM5) tb_577 tb_574 tb_576 ts_10 tb_5 ⟨rfl, hyX3_dropDatagram⟩ rfl rfl ⟨by decide, by decide⟩ (Nat.le_of_ble_eq_true rfl) dX3_gather_170 ?_
    refine g_aload_n X (pc := 173) 0 rfl rfl dX3_gather_173 ?_
    obtain ⟨v6, ev6, h⟩ := bd h
    refine g_getR X (pc := 174) fk_3_13 rfl rfl ev6 tb_187 dX3_gather_174 ?_
    obtain ⟨v7, ev7, h⟩ := bd h
    refine g_getR X (pc := 177) fk_10_0 rfl rfl ev7 tb_64 dX3_gather_177 ?_
    refine g_iconst X (pc := 180) (v := 1) dX3_gather_180 (by decide) ?_
    refine g_dup2 X (pc := 181) rfl rfl dX3_gather_181 ?_
    obtain ⟨v8, ev8, h⟩ := bd h
    refine g_iaload X (pc := 182) ev8 dX3_gather_182 ?_
    refine g_iconst X (pc := 183) (v := 1) dX3_gather_183 (by decide) ?_
    refine g_iadd X (pc := 184) dX3_gather_184 ?_
    obtain ⟨M9, eM9, h⟩ := bd h
    refine g_iastore X (pc := 185) eM9 dX3_gather_185 ?_
    refine g_aload_n X (pc := 186) 0 rfl rfl dX3_gather_186 ?_
    refine g_aload X (pc := 187) 2 rfl dX3_gather_187 ?_
    obtain ⟨v10, ev10, h⟩ := bd h
    refine g_getR X (pc := 189) fk_2_0 rfl rfl ev10 tb_744 dX3_gather_189 ?_
    obtain ⟨M11, eM11, h⟩ := bd h
    refine g_putG X (pc := 192) fk_3_0 rfl rfl rfl eM11 tb_158 (Or.inl rfl) dX3_gather_192 ?_
    refine g_aload_n X (pc := 195) 0 rfl rfl dX3_gather_195 ?_
    refine g_iconst X (pc := 196) (v := 0) dX3_gather_196 (by decide) ?_
    obtain ⟨M12, eM12, h⟩ := bd h
    refine g_putI X (pc := 197) fk_3_10 rfl rfl rfl eM12 tb_184 (Or.inl rfl) dX3_gather_197 ?_
    refine g_aload_n X (pc := 200) 0 rfl rfl dX3_gather_200 ?_
    refine g_aload X (pc := 201) 2 rfl dX3_gather_201 ?_
    obtain ⟨v13, ev13, h⟩ := bd h
    refine g_getI X (pc := 203) fk_2_5 rfl rfl ev13 tb_751 dX3_gather_203 ?_
    obtain ⟨M14, eM14, h⟩ := bd h
    refine g_putI X (pc := 206) fk_3_11 rfl rfl rfl eM14 tb_185 (Or.inl rfl) dX3_gather_206 ?_
    refine g_iconst X (pc := 209) (v := 1) dX3_gather_209 (by decide) ?_
    obtain ⟨hz, rfl⟩ := rN_some h
    exact g_nreturn X rfl hz hE dX3_gather_210
  · have h := (if_pos hc).symm.trans h
    refine g_iconst X (pc := 165) (v := 0) dX3_gather_165 (by decide) ?_
    obtain ⟨hz, rfl⟩ := rN_some h
    exact g_nreturn X rfl hz hE dX3_gather_166
theorem wX3_gather_L47 {x : GX} {n0 sl0 : Nat} (X : Cx x cX3_gather RX3 (some .boolean) n0 sl0 3 70) {out : Int32 × Mm} (hE : Ends x n0 sl0 (some (pI out.1)) out.2) (hn : xn x = 7) (fu : Nat)   (a0 : Nat) (a1 : Int32) (a3 : Int32) (a4 : Int32)  (M : Mm) (h : fX3_gather_L47 fu  a0 a1 a3 a4 M = some out) : Gw x M 47 [(0, pR (some a0)), (1, pI a1), (3, pI a3), (4, pI a4)] [] := by
  unfold fX3_gather_L47 at h
  refine g_iload X (pc := 47) 3 rfl dX3_gather_47 ?_
  refine g_aload_n X (pc := 49) 0 rfl rfl dX3_gather_49 ?_
  obtain ⟨v1, ev1, h⟩ := bd h
  refine g_getI X (pc := 50) fk_3_11 rfl rfl ev1 tb_185 dX3_gather_50 ?_
  refine g_iadd X (pc := 53) dX3_gather_53 ?_
  refine g_sipush X (pc := 54) (v := 4096) dX3_gather_54 (by decide) ?_
  refine g_icmp_le X (pc := 57) (tgt := 62) dX3_gather_57 (by decide) (fun hc => ?_) (fun hc => ?_)
  · have h := (if_pos hc).symm.trans h
    refine g_aload_n X (pc := 62) 0 rfl rfl dX3_gather_62 ?_
    refine g_iload_n X (pc := 63) 1 rfl rfl dX3_gather_63 ?_
    obtain ⟨q2, eq2, h⟩ := bd h
    obtain ⟨v4, M3, eM3, h⟩ := b2d h
    refine g_callV X (pc := 64) (M' := M3) (ro := some (pI v4)) (c := 3) rfl (by decide) (as := [pI a1]) (as' := [pI a1]) (st := []) eq2 (ctX3_indexOf _ _ _ _ _ _ fu q2 a1 M _ eM3) tb_733 tb_730 tb_732 ts_25 tb_5 ⟨rfl, hyX3_indexOf⟩ rfl rfl ⟨by decide, by decide⟩ (Nat.le_of_ble_eq_true rfl) dX3_gather_64 ?_
    refine g_istore X (pc := 67) [(5, pI v4), (0, pR (some a0)), (1, pI a1), (3, pI a3), (4, pI a4)] (lt_n hn (by decide)) rfl dX3_gather_67 ?_
    refine g_iload X (pc := 69) 0 rfl dX3_gather_69 ?_
    refine g_if_lt X (pc := 71) (tgt := 80) dX3_gather_71 (by decide) (fun hc => ?_) (fun hc => ?_)
    · have h := (if_pos hc).symm.trans h
      refine g_iconst X (pc := 80) (v := 0) dX3_gather_80 (by decide) ?_
      obtain ⟨hz, rfl⟩ := rN_some h
      exact g_nreturn X rfl hz hE dX3_gather_81
    · have h := (if_neg hc).symm.trans h
      refine g_iload X (pc := 74) 0 rfl dX3_gather_74 ?_
      refine g_iconst X (pc := 76) (v := 4) dX3_gather_76 (by decide) ?_
      refine g_icmp_lt X (pc := 77) (tgt := 82) dX3_gather_77 (by decide) (fun hc => ?_) (fun hc => ?_)
      · have h := (if_pos hc).symm.trans h
        refine g_aload_n X (pc := 82) 1 rfl rfl dX3_gather_82 ?_
        obtain ⟨v5, ev5, h⟩ := bd h
        refine g_getR X (pc := 83) fk_3_15 rfl rfl ev5 tb_189 dX3_gather_83 ?_
        refine g_iload X (pc := 86) 0 rfl dX3_gather_86 ?_
        obtain ⟨v6, ev6, h⟩ := bd h
        refine g_aaload X (pc := 88) (k := 4) rfl rfl (by decide) ev6 dX3_gather_88 ?_
        refine g_astore X (pc := 89) [(6, pR v6), (5, pI v4), (0, pR (some a0)), (1, pI a1), (3, pI a3), (4, pI a4)] (lt_n hn (by decide)) rfl dX3_gather_89 ?_
        refine g_aload X (pc := 91) 0 rfl dX3_gather_91 ?_
        refine g_ifnonnull X (pc := 93) (tgt := 98) dX3_gather_93 (by decide) (fun hc => ?_) (fun hc => ?_)
        · have h := (if_neg hc).symm.trans h
          refine g_aload X (pc := 98) 0 rfl dX3_gather_98 ?_
          refine g_iload X (pc := 100) 5 rfl dX3_gather_100 ?_
          refine g_aload_n X (pc := 102) 2 rfl rfl dX3_gather_102 ?_
          obtain ⟨v7, ev7, h⟩ := bd h
          refine g_getI X (pc := 103) fk_3_11 rfl rfl ev7 tb_185 dX3_gather_103 ?_
          refine g_iadd X (pc := 106) dX3_gather_106 ?_
          refine g_iload_n X (pc := 107) 4 rfl rfl dX3_gather_107 ?_
          obtain ⟨q8, eq8, h⟩ := bd h
          obtain ⟨v10, M9, eM9, h⟩ := b2d h
          refine g_callV X (pc := 108) (M' := M9) (ro := some (pI v10)) (c := 2) rfl (by decide) (as := [pI (a4 + v7), pI a3]) (as' := [pI a3, pI (a4 + v7)]) (st := []) eq8 (ctX2_agrees _ _ _ _ _ _ fu q8 (a4 + v7) a3 M3 _ eM9) tb_782 tb_779 tb_780 tb_781 tb_17 ⟨rfl, hyX2_agrees⟩ rfl rfl ⟨by decide, by decide⟩ (Nat.le_of_ble_eq_true rfl) dX3_gather_108 ?_
          refine g_if_ne X (pc := 111) (tgt := 122) dX3_gather_111 (by decide) (fun hc => ?_) (fun hc => ?_)
          · have h := (if_neg hc).symm.trans h
            refine g_aload X (pc := 122) 0 rfl dX3_gather_122 ?_
            refine g_aload_n X (pc := 124) 2 rfl rfl dX3_gather_124 ?_
            obtain ⟨v11, ev11, h⟩ := bd h
            refine g_getR X (pc := 125) fk_3_0 rfl rfl ev11 tb_158 dX3_gather_125 ?_
            refine g_aload_n X (pc := 128) 2 rfl rfl dX3_gather_128 ?_
            obtain ⟨v12, ev12, h⟩ := bd h
            refine g_getI X (pc := 129) fk_3_10 rfl rfl ev12 tb_184 dX3_gather_129 ?_
            refine g_iload X (pc := 132) 5 rfl dX3_gather_132 ?_
            refine g_aload_n X (pc := 134) 2 rfl rfl dX3_gather_134 ?_
            obtain ⟨v13, ev13, h⟩ := bd h
            refine g_getI X (pc := 135) fk_3_11 rfl rfl ev13 tb_185 dX3_gather_135 ?_
            obtain ⟨q14, eq14, h⟩ := bd h
            obtain ⟨M15, eM15, h⟩ := bd h
            refine g_callV X (pc := 138) (M' := M15) (ro := none) (c := 2) rfl (by decide) (as := [pR v11, pI v12, pI a4, pI v13]) (as' := [pI v13, pI a4, pI v12, pR v11]) (st := []) eq14 (ctX2_put _ _ _ _ _ _ fu q14 v11 v12 a4 v13 M9 _ eM15) tb_786 tb_783 tb_784 tb_785 tb_17 ⟨rfl, hyX2_put⟩ rfl rfl ⟨by decide, by decide⟩ (Nat.le_of_ble_eq_true rfl) dX3_gather_138 ?_
            refine g_iload_n X (pc := 141) 4 rfl rfl dX3_gather_141 ?_
            refine g_if_ne X (pc := 142) (tgt := 157) dX3_gather_142 (by decide) (fun hc => ?_) (fun hc => ?_)
            · have h := (if_neg hc).symm.trans h
              refine g_sub [2, 1, 0] [(0, pR (some a0)), (5, pI v4), (6, pR v6)] rfl ?_
              exact wX3_gather_L157 X hE hn fu   a0 v4 v6 M15 h
            · have h := (if_pos hc).symm.trans h
              refine g_aload X (pc := 145) 0 rfl dX3_gather_145 ?_
              refine g_iload X (pc := 147) 5 rfl dX3_gather_147 ?_
              refine g_aload_n X (pc := 149) 2 rfl rfl dX3_gather_149 ?_
              obtain ⟨v16, ev16, h⟩ := bd h
              refine g_getI X (pc := 150) fk_3_11 rfl rfl ev16 tb_185 dX3_gather_150 ?_
              refine g_iadd X (pc := 153) dX3_gather_153 ?_
              obtain ⟨M17, eM17, h⟩ := bd h
              refine g_putI X (pc := 154) fk_2_5 rfl rfl rfl eM17 tb_751 (Or.inl rfl) dX3_gather_154 ?_
              refine g_sub [2, 1, 0] [(0, pR (some a0)), (5, pI v4), (6, pR v6)] rfl ?_
              exact wX3_gather_L157 X hE hn fu   a0 v4 v6 M17 h
          · have h := (if_pos hc).symm.trans h
            refine g_aload_n X (pc := 114) 2 rfl rfl dX3_gather_114 ?_
            refine g_iload X (pc := 115) 1 rfl dX3_gather_115 ?_
            obtain ⟨q18, eq18, h⟩ := bd h
            obtain ⟨M19, eM19, h⟩ := bd h
            refine g_callV X (pc := 117) (M' := M19) (ro := none) (c := 3) rfl (by decide) (as := [pI v4]) (as' := [pI v4]) (st := []) eq18 (ctX3_dropDatagram _ _ _ _ _ _ fu q18 v4 M9 _ eM19) tb_577 tb_574 tb_576 ts_10 tb_5 ⟨rfl, hyX3_dropDatagram⟩ rfl rfl ⟨by decide, by decide⟩ (Nat.le_of_ble_eq_true rfl) dX3_gather_117 ?_
            refine g_iconst X (pc := 120) (v := 0) dX3_gather_120 (by decide) ?_
            obtain ⟨hz, rfl⟩ := rN_some h
            exact g_nreturn X rfl hz hE dX3_gather_121
        · have h := (if_pos hc).symm.trans h
          refine g_iconst X (pc := 96) (v := 0) dX3_gather_96 (by decide) ?_
          obtain ⟨hz, rfl⟩ := rN_some h
          exact g_nreturn X rfl hz hE dX3_gather_97
      · have h := (if_neg hc).symm.trans h
        refine g_iconst X (pc := 80) (v := 0) dX3_gather_80 (by decide) ?_
        obtain ⟨hz, rfl⟩ := rN_some h
        exact g_nreturn X rfl hz hE dX3_gather_81
  · have h := (if_neg hc).symm.trans h
    refine g_iconst X (pc := 60) (v := 0) dX3_gather_60 (by decide) ?_
    obtain ⟨hz, rfl⟩ := rN_some h
    exact g_nreturn X rfl hz hE dX3_gather_61
theorem wX3_gather_L13 {x : GX} {n0 sl0 : Nat} (X : Cx x cX3_gather RX3 (some .boolean) n0 sl0 3 70) {out : Int32 × Mm} (hE : Ends x n0 sl0 (some (pI out.1)) out.2) (hn : xn x = 7) (fu : Nat)   (a0 : Nat) (a1 : Int32) (a2 : Int32) (s0 : Int32) (M : Mm) (h : fX3_gather_L13 fu  a0 a1 a2 s0 M = some out) : Gw x M 13 [(0, pR (some a0)), (1, pI a1), (2, pI a2)] [pI s0] := by
  unfold fX3_gather_L13 at h
  refine g_istore_n X (pc := 13) [(3, pI s0), (0, pR (some a0)), (1, pI a1), (2, pI a2)] rfl (lt_n hn (by decide)) rfl dX3_gather_13 ?_
  refine g_iload_n X (pc := 14) 3 rfl rfl dX3_gather_14 ?_
  refine g_sipush X (pc := 15) (v := 8191) dX3_gather_15 (by decide) ?_
  refine g_iand X (pc := 18) dX3_gather_18 ?_
  refine g_bipush X (pc := 19) (v := 8) dX3_gather_19 (by decide) ?_
  refine g_imul X (pc := 21) dX3_gather_21 ?_
  refine g_istore X (pc := 22) [(4, pI ((a2 &&& (8191 : Int32)) * (8 : Int32))), (3, pI s0), (0, pR (some a0)), (1, pI a1), (2, pI a2)] (lt_n hn (by decide)) rfl dX3_gather_22 ?_
  refine g_iload_n X (pc := 24) 1 rfl rfl dX3_gather_24 ?_
  refine g_if_eq X (pc := 25) (tgt := 47) dX3_gather_25 (by decide) (fun hc => ?_) (fun hc => ?_)
  · have h := (if_pos hc).symm.trans h
    refine g_sub [2, 3, 1, 0] [(0, pR (some a0)), (1, pI a1), (3, pI s0), (4, pI ((a2 &&& (8191 : Int32)) * (8 : Int32)))] rfl ?_
    exact wX3_gather_L47 X hE hn fu   a0 a1 s0 ((a2 &&& (8191 : Int32)) * (8 : Int32)) M h
  · have h := (if_neg hc).symm.trans h
    refine g_aload_n X (pc := 28) 2 rfl rfl dX3_gather_28 ?_
    obtain ⟨v1, ev1, h⟩ := bd h
    refine g_getI X (pc := 29) fk_3_11 rfl rfl ev1 tb_185 dX3_gather_29 ?_
    refine g_bipush X (pc := 32) (v := 8) dX3_gather_32 (by decide) ?_
    refine g_icmp_lt X (pc := 34) (tgt := 60) dX3_gather_34 (by decide) (fun hc => ?_) (fun hc => ?_)
    · have h := (if_pos hc).symm.trans h
      refine g_iconst X (pc := 60) (v := 0) dX3_gather_60 (by decide) ?_
      obtain ⟨hz, rfl⟩ := rN_some h
      exact g_nreturn X rfl hz hE dX3_gather_61
    · have h := (if_neg hc).symm.trans h
      refine g_aload_n X (pc := 37) 2 rfl rfl dX3_gather_37 ?_
      obtain ⟨v2, ev2, h⟩ := bd h
      refine g_getI X (pc := 38) fk_3_11 rfl rfl ev2 tb_185 dX3_gather_38 ?_
      refine g_bipush X (pc := 41) (v := 8) dX3_gather_41 (by decide) ?_
      refine g_irem X (pc := 43) (by decide) dX3_gather_43 ?_
      refine g_if_ne X (pc := 44) (tgt := 60) dX3_gather_44 (by decide) (fun hc => ?_) (fun hc => ?_)
      · have h := (if_neg hc).symm.trans h
        refine g_iconst X (pc := 60) (v := 0) dX3_gather_60 (by decide) ?_
        obtain ⟨hz, rfl⟩ := rN_some h
        exact g_nreturn X rfl hz hE dX3_gather_61
      · have h := (if_pos hc).symm.trans h
        refine g_sub [2, 3, 1, 0] [(0, pR (some a0)), (1, pI a1), (3, pI s0), (4, pI ((a2 &&& (8191 : Int32)) * (8 : Int32)))] rfl ?_
        exact wX3_gather_L47 X hE hn fu   a0 a1 s0 ((a2 &&& (8191 : Int32)) * (8 : Int32)) M h
theorem wX3_gather {x : GX} {n0 sl0 : Nat} (X : Cx x cX3_gather RX3 (some .boolean) n0 sl0 3 70) {out : Int32 × Mm} (hE : Ends x n0 sl0 (some (pI out.1)) out.2) (hn : xn x = 7) (fu : Nat)   (a0 : Nat) (a1 : Int32) (a2 : Int32)  (M : Mm) (h : fX3_gather fu  a0 a1 a2 M = some out) : Gw x M 0 [(0, pR (some a0)), (1, pI a1), (2, pI a2)] [] := by
  unfold fX3_gather at h
  refine g_iload_n X (pc := 0) 2 rfl rfl dX3_gather_0 ?_
  refine g_sipush X (pc := 1) (v := 8192) dX3_gather_1 (by decide) ?_
  refine g_iand X (pc := 4) dX3_gather_4 ?_
  refine g_if_eq X (pc := 5) (tgt := 12) dX3_gather_5 (by decide) (fun hc => ?_) (fun hc => ?_)
  · have h := (if_pos hc).symm.trans h
    refine g_iconst X (pc := 12) (v := 0) dX3_gather_12 (by decide) ?_
    exact wX3_gather_L13 X hE hn fu   a0 a1 a2 (0 : Int32) M h
  · have h := (if_neg hc).symm.trans h
    refine g_iconst X (pc := 8) (v := 1) dX3_gather_8 (by decide) ?_
    refine g_goto X (pc := 9) (tgt := 13) dX3_gather_9 (by decide) ?_
    exact wX3_gather_L13 X hE hn fu   a0 a1 a2 (1 : Int32) M h
theorem hyX3_gather : yX3_gather.cls ≠ "java/lang/invoke/MethodHandle" ∧ yX3_gather.cls ≠ "java/lang/invoke/VarHandle" ∧ (parseMethodDescriptor yX3_gather.desc).map (fun d => d.parameters.length) = some 2 := ⟨by decide +kernel, by decide +kernel, by decide +kernel⟩
theorem ctX3_gather (l : Launch) (E : Nat → Nat) (D : va_G) (dA : Nat → ClassId) (lo : Nat) (H0 : Heap) (fu : Nat) (a0 : Nat) (a1 : Int32) (a2 : Int32) (M : Mm) (out : Int32 × Mm) (h : fX3_gather fu a0 a1 a2 M = some out) : Ct l E D dA lo H0 yX3_gather cX3_gather 7 (some .boolean) 3 70 [pR (some a0), pI a1, pI a2] M (some (pI out.1)) out.2 := by
  refine ct_of (by decide +kernel) (Nat.le_of_ble_eq_true rfl) ?_
  intro x hl he hd ha ho hh hn hin X hE
  exact wX3_gather X hE hn fu a0 a1 a2 M h
/-! WebHost$Intake.readPacket([BI)Z -/
def fX3_readPacket (fu : Nat)  (a0 : Nat) (a1 : Option Nat) (a2 : Int32)  (M : Mm) : Option (Int32 × Mm) :=
    b2 (fX11_one fu  a1 (14 : Int32) M) fun v2 M1 =>
    b2 (fX11_two fu  a1 (16 : Int32) M1) fun v4 M3 =>
    if a2 < (20 : Int32) then (
    rN .boolean (0 : Int32) M3)
    else (
    b2 (fX11_one fu  a1 (14 : Int32) M3) fun v6 M5 =>
    if (v6 >>> ((4 : Int32) &&& 31)) = (4 : Int32) then (
    if (20 : Int32) ≤ ((v2 &&& (15 : Int32)) * (4 : Int32)) then (
    if v4 < ((v2 &&& (15 : Int32)) * (4 : Int32)) then (
    rN .boolean (0 : Int32) M5)
    else (
    if a2 < v4 then (
    rN .boolean (0 : Int32) M5)
    else (
    b2 (fX11_added fu  a1 (14 : Int32) ((v2 &&& (15 : Int32)) * (4 : Int32)) (0 : Int32) M5) fun v8 M7 =>
    if v8 = (65535 : Int32) then (
    b2 (fX11_four fu  a1 (26 : Int32) M7) fun v10 M9 =>
    (pF M9 3 193 (some a0) v10).bind fun M11 =>
    b2 (fX11_four fu  a1 (30 : Int32) M11) fun v13 M12 =>
    (gR M12 3 206 (some a0)).bind fun v14 =>
    (gI M12 4 257 v14).bind fun v15 =>
    if v13 = v15 then (
    (gI M12 3 193 (some a0)).bind fun v16 =>
    (gR M12 3 206 (some a0)).bind fun v17 =>
    (gI M12 4 257 v17).bind fun v18 =>
    if v16 = v18 then (
    rN .boolean (0 : Int32) M12)
    else (
    (gI M12 3 193 (some a0)).bind fun v19 =>
    b2 (fX11_isHostNumber fu  v19 M12) fun v21 M20 =>
    if v21 = 0 then (
    rN .boolean (0 : Int32) M20)
    else (
    b2 (fX11_one fu  a1 (23 : Int32) M20) fun v23 M22 =>
    (pF M22 3 204 (some a0) v23).bind fun M24 =>
    (pG M24 3 192 (some a0) a1).bind fun M25 =>
    (pF M25 3 202 (some a0) ((14 : Int32) + ((v2 &&& (15 : Int32)) * (4 : Int32)))).bind fun M26 =>
    (pF M26 3 203 (some a0) (v4 - ((v2 &&& (15 : Int32)) * (4 : Int32)))).bind fun M27 =>
    b2 (fX11_two fu  a1 (20 : Int32) M27) fun v29 M28 =>
    if (v29 &&& (16383 : Int32)) = 0 then (
    rN .boolean (1 : Int32) M28)
    else (
    b2 (fX11_two fu  a1 (18 : Int32) M28) fun v31 M30 =>
    (rc M30 3 (some a0)).bind fun q32 =>
    b2 (fX3_gather fu q32 v31 (v29 &&& (16383 : Int32)) M30) fun v34 M33 =>
    if v34 = 0 then (
    rN .boolean (0 : Int32) M33)
    else (
    rN .boolean (1 : Int32) M33)))))
    else (
    rN .boolean (0 : Int32) M12))
    else (
    rN .boolean (0 : Int32) M7))))
    else (
    rN .boolean (0 : Int32) M5))
    else (
    rN .boolean (0 : Int32) M5))
theorem dX3_readPacket_0 : decode cX3_readPacket 0 = .ok (.aload_n 1, 1) := by decide +kernel
theorem dX3_readPacket_1 : decode cX3_readPacket 1 = .ok (.bipush 14, 2) := by decide +kernel
theorem dX3_readPacket_3 : decode cX3_readPacket 3 = .ok (.invokestatic 60, 3) := by decide +kernel
theorem dX3_readPacket_6 : decode cX3_readPacket 6 = .ok (.bipush 15, 2) := by decide +kernel
theorem dX3_readPacket_8 : decode cX3_readPacket 8 = .ok (.iand, 1) := by decide +kernel
theorem dX3_readPacket_9 : decode cX3_readPacket 9 = .ok (.iconst 4, 1) := by decide +kernel
theorem dX3_readPacket_10 : decode cX3_readPacket 10 = .ok (.imul, 1) := by decide +kernel
theorem dX3_readPacket_11 : decode cX3_readPacket 11 = .ok (.istore_n 3, 1) := by decide +kernel
theorem dX3_readPacket_12 : decode cX3_readPacket 12 = .ok (.aload_n 1, 1) := by decide +kernel
theorem dX3_readPacket_13 : decode cX3_readPacket 13 = .ok (.bipush 16, 2) := by decide +kernel
theorem dX3_readPacket_15 : decode cX3_readPacket 15 = .ok (.invokestatic 37, 3) := by decide +kernel
theorem dX3_readPacket_18 : decode cX3_readPacket 18 = .ok (.istore 4, 2) := by decide +kernel
theorem dX3_readPacket_20 : decode cX3_readPacket 20 = .ok (.iload_n 2, 1) := by decide +kernel
theorem dX3_readPacket_21 : decode cX3_readPacket 21 = .ok (.bipush 20, 2) := by decide +kernel
theorem dX3_readPacket_23 : decode cX3_readPacket 23 = .ok (.if_icmp .lt 21, 3) := by decide +kernel
theorem dX3_readPacket_26 : decode cX3_readPacket 26 = .ok (.aload_n 1, 1) := by decide +kernel
theorem dX3_readPacket_27 : decode cX3_readPacket 27 = .ok (.bipush 14, 2) := by decide +kernel
theorem dX3_readPacket_29 : decode cX3_readPacket 29 = .ok (.invokestatic 60, 3) := by decide +kernel
theorem dX3_readPacket_32 : decode cX3_readPacket 32 = .ok (.iconst 4, 1) := by decide +kernel
theorem dX3_readPacket_33 : decode cX3_readPacket 33 = .ok (.ishr, 1) := by decide +kernel
theorem dX3_readPacket_34 : decode cX3_readPacket 34 = .ok (.iconst 4, 1) := by decide +kernel
theorem dX3_readPacket_35 : decode cX3_readPacket 35 = .ok (.if_icmp .ne 9, 3) := by decide +kernel
theorem dX3_readPacket_38 : decode cX3_readPacket 38 = .ok (.iload_n 3, 1) := by decide +kernel
theorem dX3_readPacket_39 : decode cX3_readPacket 39 = .ok (.bipush 20, 2) := by decide +kernel
theorem dX3_readPacket_41 : decode cX3_readPacket 41 = .ok (.if_icmp .ge 5, 3) := by decide +kernel
theorem dX3_readPacket_44 : decode cX3_readPacket 44 = .ok (.iconst 0, 1) := by decide +kernel
theorem dX3_readPacket_45 : decode cX3_readPacket 45 = .ok (.ireturn, 1) := by decide +kernel
theorem dX3_readPacket_46 : decode cX3_readPacket 46 = .ok (.iload 4, 2) := by decide +kernel
theorem dX3_readPacket_48 : decode cX3_readPacket 48 = .ok (.iload_n 3, 1) := by decide +kernel
theorem dX3_readPacket_49 : decode cX3_readPacket 49 = .ok (.if_icmp .lt 22, 3) := by decide +kernel
theorem dX3_readPacket_52 : decode cX3_readPacket 52 = .ok (.iload 4, 2) := by decide +kernel
theorem dX3_readPacket_54 : decode cX3_readPacket 54 = .ok (.iload_n 2, 1) := by decide +kernel
theorem dX3_readPacket_55 : decode cX3_readPacket 55 = .ok (.if_icmp .gt 16, 3) := by decide +kernel
theorem dX3_readPacket_58 : decode cX3_readPacket 58 = .ok (.aload_n 1, 1) := by decide +kernel
theorem dX3_readPacket_59 : decode cX3_readPacket 59 = .ok (.bipush 14, 2) := by decide +kernel
theorem dX3_readPacket_61 : decode cX3_readPacket 61 = .ok (.iload_n 3, 1) := by decide +kernel
theorem dX3_readPacket_62 : decode cX3_readPacket 62 = .ok (.iconst 0, 1) := by decide +kernel
theorem dX3_readPacket_63 : decode cX3_readPacket 63 = .ok (.invokestatic 63, 3) := by decide +kernel
theorem dX3_readPacket_66 : decode cX3_readPacket 66 = .ok (.ldc 59, 2) := by decide +kernel
theorem dX3_readPacket_68 : decode cX3_readPacket 68 = .ok (.if_icmp .eq 5, 3) := by decide +kernel
theorem dX3_readPacket_71 : decode cX3_readPacket 71 = .ok (.iconst 0, 1) := by decide +kernel
theorem dX3_readPacket_72 : decode cX3_readPacket 72 = .ok (.ireturn, 1) := by decide +kernel
theorem dX3_readPacket_73 : decode cX3_readPacket 73 = .ok (.aload_n 0, 1) := by decide +kernel
theorem dX3_readPacket_74 : decode cX3_readPacket 74 = .ok (.aload_n 1, 1) := by decide +kernel
theorem dX3_readPacket_75 : decode cX3_readPacket 75 = .ok (.bipush 26, 2) := by decide +kernel
theorem dX3_readPacket_77 : decode cX3_readPacket 77 = .ok (.invokestatic 48, 3) := by decide +kernel
theorem dX3_readPacket_80 : decode cX3_readPacket 80 = .ok (.putfield 67, 3) := by decide +kernel
theorem dX3_readPacket_83 : decode cX3_readPacket 83 = .ok (.aload_n 1, 1) := by decide +kernel
theorem dX3_readPacket_84 : decode cX3_readPacket 84 = .ok (.bipush 30, 2) := by decide +kernel
theorem dX3_readPacket_86 : decode cX3_readPacket 86 = .ok (.invokestatic 48, 3) := by decide +kernel
theorem dX3_readPacket_89 : decode cX3_readPacket 89 = .ok (.aload_n 0, 1) := by decide +kernel
theorem dX3_readPacket_90 : decode cX3_readPacket 90 = .ok (.getfield 15, 3) := by decide +kernel
theorem dX3_readPacket_93 : decode cX3_readPacket 93 = .ok (.getfield 70, 3) := by decide +kernel
theorem dX3_readPacket_96 : decode cX3_readPacket 96 = .ok (.if_icmp .ne 27, 3) := by decide +kernel
theorem dX3_readPacket_99 : decode cX3_readPacket 99 = .ok (.aload_n 0, 1) := by decide +kernel
theorem dX3_readPacket_100 : decode cX3_readPacket 100 = .ok (.getfield 67, 3) := by decide +kernel
theorem dX3_readPacket_103 : decode cX3_readPacket 103 = .ok (.aload_n 0, 1) := by decide +kernel
theorem dX3_readPacket_104 : decode cX3_readPacket 104 = .ok (.getfield 15, 3) := by decide +kernel
theorem dX3_readPacket_107 : decode cX3_readPacket 107 = .ok (.getfield 70, 3) := by decide +kernel
theorem dX3_readPacket_110 : decode cX3_readPacket 110 = .ok (.if_icmp .eq 13, 3) := by decide +kernel
theorem dX3_readPacket_113 : decode cX3_readPacket 113 = .ok (.aload_n 0, 1) := by decide +kernel
theorem dX3_readPacket_114 : decode cX3_readPacket 114 = .ok (.getfield 67, 3) := by decide +kernel
theorem dX3_readPacket_117 : decode cX3_readPacket 117 = .ok (.invokestatic 73, 3) := by decide +kernel
theorem dX3_readPacket_120 : decode cX3_readPacket 120 = .ok (.ifCond .ne 5, 3) := by decide +kernel
theorem dX3_readPacket_123 : decode cX3_readPacket 123 = .ok (.iconst 0, 1) := by decide +kernel
theorem dX3_readPacket_124 : decode cX3_readPacket 124 = .ok (.ireturn, 1) := by decide +kernel
theorem dX3_readPacket_125 : decode cX3_readPacket 125 = .ok (.aload_n 0, 1) := by decide +kernel
theorem dX3_readPacket_126 : decode cX3_readPacket 126 = .ok (.aload_n 1, 1) := by decide +kernel
theorem dX3_readPacket_127 : decode cX3_readPacket 127 = .ok (.bipush 23, 2) := by decide +kernel
theorem dX3_readPacket_129 : decode cX3_readPacket 129 = .ok (.invokestatic 60, 3) := by decide +kernel
theorem dX3_readPacket_132 : decode cX3_readPacket 132 = .ok (.putfield 45, 3) := by decide +kernel
theorem dX3_readPacket_135 : decode cX3_readPacket 135 = .ok (.aload_n 0, 1) := by decide +kernel
theorem dX3_readPacket_136 : decode cX3_readPacket 136 = .ok (.aload_n 1, 1) := by decide +kernel
theorem dX3_readPacket_137 : decode cX3_readPacket 137 = .ok (.putfield 19, 3) := by decide +kernel
theorem dX3_readPacket_140 : decode cX3_readPacket 140 = .ok (.aload_n 0, 1) := by decide +kernel
theorem dX3_readPacket_141 : decode cX3_readPacket 141 = .ok (.bipush 14, 2) := by decide +kernel
theorem dX3_readPacket_143 : decode cX3_readPacket 143 = .ok (.iload_n 3, 1) := by decide +kernel
theorem dX3_readPacket_144 : decode cX3_readPacket 144 = .ok (.iadd, 1) := by decide +kernel
theorem dX3_readPacket_145 : decode cX3_readPacket 145 = .ok (.putfield 77, 3) := by decide +kernel
theorem dX3_readPacket_148 : decode cX3_readPacket 148 = .ok (.aload_n 0, 1) := by decide +kernel
theorem dX3_readPacket_149 : decode cX3_readPacket 149 = .ok (.iload 4, 2) := by decide +kernel
theorem dX3_readPacket_151 : decode cX3_readPacket 151 = .ok (.iload_n 3, 1) := by decide +kernel
theorem dX3_readPacket_152 : decode cX3_readPacket 152 = .ok (.isub, 1) := by decide +kernel
theorem dX3_readPacket_153 : decode cX3_readPacket 153 = .ok (.putfield 80, 3) := by decide +kernel
theorem dX3_readPacket_156 : decode cX3_readPacket 156 = .ok (.aload_n 1, 1) := by decide +kernel
theorem dX3_readPacket_157 : decode cX3_readPacket 157 = .ok (.bipush 20, 2) := by decide +kernel
theorem dX3_readPacket_159 : decode cX3_readPacket 159 = .ok (.invokestatic 37, 3) := by decide +kernel
theorem dX3_readPacket_162 : decode cX3_readPacket 162 = .ok (.sipush 16383, 3) := by decide +kernel
theorem dX3_readPacket_165 : decode cX3_readPacket 165 = .ok (.iand, 1) := by decide +kernel
theorem dX3_readPacket_166 : decode cX3_readPacket 166 = .ok (.istore 5, 2) := by decide +kernel
theorem dX3_readPacket_168 : decode cX3_readPacket 168 = .ok (.iload 5, 2) := by decide +kernel
theorem dX3_readPacket_170 : decode cX3_readPacket 170 = .ok (.ifCond .eq 18, 3) := by decide +kernel
theorem dX3_readPacket_173 : decode cX3_readPacket 173 = .ok (.aload_n 0, 1) := by decide +kernel
theorem dX3_readPacket_174 : decode cX3_readPacket 174 = .ok (.aload_n 1, 1) := by decide +kernel
theorem dX3_readPacket_175 : decode cX3_readPacket 175 = .ok (.bipush 18, 2) := by decide +kernel
theorem dX3_readPacket_177 : decode cX3_readPacket 177 = .ok (.invokestatic 37, 3) := by decide +kernel
theorem dX3_readPacket_180 : decode cX3_readPacket 180 = .ok (.iload 5, 2) := by decide +kernel
theorem dX3_readPacket_182 : decode cX3_readPacket 182 = .ok (.invokevirtual 83, 3) := by decide +kernel
theorem dX3_readPacket_185 : decode cX3_readPacket 185 = .ok (.ifCond .eq 7, 3) := by decide +kernel
theorem dX3_readPacket_188 : decode cX3_readPacket 188 = .ok (.iconst 1, 1) := by decide +kernel
theorem dX3_readPacket_189 : decode cX3_readPacket 189 = .ok (.goto 4, 3) := by decide +kernel
theorem dX3_readPacket_192 : decode cX3_readPacket 192 = .ok (.iconst 0, 1) := by decide +kernel
theorem dX3_readPacket_193 : decode cX3_readPacket 193 = .ok (.ireturn, 1) := by decide +kernel
theorem wX3_readPacket {x : GX} {n0 sl0 : Nat} (X : Cx x cX3_readPacket RX3 (some .boolean) n0 sl0 4 96) {out : Int32 × Mm} (hE : Ends x n0 sl0 (some (pI out.1)) out.2) (hn : xn x = 6) (fu : Nat)   (a0 : Nat) (a1 : Option Nat) (a2 : Int32)  (M : Mm) (h : fX3_readPacket fu  a0 a1 a2 M = some out) : Gw x M 0 [(0, pR (some a0)), (1, pR a1), (2, pI a2)] [] := by
  unfold fX3_readPacket at h
  refine g_aload_n X (pc := 0) 1 rfl rfl dX3_readPacket_0 ?_
  refine g_bipush X (pc := 1) (v := 14) dX3_readPacket_1 (by decide) ?_
  obtain ⟨v2, M1, eM1, h⟩ := b2d h
  refine g_callSN X (pc := 3) (M' := M1) (ro := some (pI v2)) (as := [pR a1, pI (14 : Int32)]) (as' := [pI (14 : Int32), pR a1]) (st := []) (ctX11_one _ _ _ _ _ _ fu  a1 (14 : Int32) M _ eM1) tb_415 (List.mem_of_getElem? (i := 13) rfl) tb_414 tb_1 hyX11_one rfl rfl ⟨by decide, by decide⟩ (Nat.le_of_ble_eq_true rfl) dX3_readPacket_3 ?_
  refine g_bipush X (pc := 6) (v := 15) dX3_readPacket_6 (by decide) ?_
  refine g_iand X (pc := 8) dX3_readPacket_8 ?_
  refine g_iconst X (pc := 9) (v := 4) dX3_readPacket_9 (by decide) ?_
  refine g_imul X (pc := 10) dX3_readPacket_10 ?_
  refine g_istore_n X (pc := 11) [(3, pI ((v2 &&& (15 : Int32)) * (4 : Int32))), (0, pR (some a0)), (1, pR a1), (2, pI a2)] rfl (lt_n hn (by decide)) rfl dX3_readPacket_11 ?_
  refine g_aload_n X (pc := 12) 2 rfl rfl dX3_readPacket_12 ?_
  refine g_bipush X (pc := 13) (v := 16) dX3_readPacket_13 (by decide) ?_
  obtain ⟨v4, M3, eM3, h⟩ := b2d h
  refine g_callSN X (pc := 15) (M' := M3) (ro := some (pI v4)) (as := [pR a1, pI (16 : Int32)]) (as' := [pI (16 : Int32), pR a1]) (st := []) (ctX11_two _ _ _ _ _ _ fu  a1 (16 : Int32) M1 _ eM3) tb_398 (List.mem_of_getElem? (i := 11) rfl) tb_397 tb_1 hyX11_two rfl rfl ⟨by decide, by decide⟩ (Nat.le_of_ble_eq_true rfl) dX3_readPacket_15 ?_
  refine g_istore X (pc := 18) [(4, pI v4), (3, pI ((v2 &&& (15 : Int32)) * (4 : Int32))), (0, pR (some a0)), (1, pR a1), (2, pI a2)] (lt_n hn (by decide)) rfl dX3_readPacket_18 ?_
  refine g_iload_n X (pc := 20) 4 rfl rfl dX3_readPacket_20 ?_
  refine g_bipush X (pc := 21) (v := 20) dX3_readPacket_21 (by decide) ?_
  refine g_icmp_lt X (pc := 23) (tgt := 44) dX3_readPacket_23 (by decide) (fun hc => ?_) (fun hc => ?_)
  · have h := (if_pos hc).symm.trans h
    refine g_iconst X (pc := 44) (v := 0) dX3_readPacket_44 (by decide) ?_
    obtain ⟨hz, rfl⟩ := rN_some h
    exact g_nreturn X rfl hz hE dX3_readPacket_45
  · have h := (if_neg hc).symm.trans h
    refine g_aload_n X (pc := 26) 3 rfl rfl dX3_readPacket_26 ?_
    refine g_bipush X (pc := 27) (v := 14) dX3_readPacket_27 (by decide) ?_
    obtain ⟨v6, M5, eM5, h⟩ := b2d h
    refine g_callSN X (pc := 29) (M' := M5) (ro := some (pI v6)) (as := [pR a1, pI (14 : Int32)]) (as' := [pI (14 : Int32), pR a1]) (st := []) (ctX11_one _ _ _ _ _ _ fu  a1 (14 : Int32) M3 _ eM5) tb_415 (List.mem_of_getElem? (i := 13) rfl) tb_414 tb_1 hyX11_one rfl rfl ⟨by decide, by decide⟩ (Nat.le_of_ble_eq_true rfl) dX3_readPacket_29 ?_
    refine g_iconst X (pc := 32) (v := 4) dX3_readPacket_32 (by decide) ?_
    refine g_ishr X (pc := 33) dX3_readPacket_33 ?_
    refine g_iconst X (pc := 34) (v := 4) dX3_readPacket_34 (by decide) ?_
    refine g_icmp_ne X (pc := 35) (tgt := 44) dX3_readPacket_35 (by decide) (fun hc => ?_) (fun hc => ?_)
    · have h := (if_neg hc).symm.trans h
      refine g_iconst X (pc := 44) (v := 0) dX3_readPacket_44 (by decide) ?_
      obtain ⟨hz, rfl⟩ := rN_some h
      exact g_nreturn X rfl hz hE dX3_readPacket_45
    · have h := (if_pos hc).symm.trans h
      refine g_iload_n X (pc := 38) 1 rfl rfl dX3_readPacket_38 ?_
      refine g_bipush X (pc := 39) (v := 20) dX3_readPacket_39 (by decide) ?_
      refine g_icmp_ge X (pc := 41) (tgt := 46) dX3_readPacket_41 (by decide) (fun hc => ?_) (fun hc => ?_)
      · have h := (if_pos hc).symm.trans h
        refine g_iload X (pc := 46) 0 rfl dX3_readPacket_46 ?_
        refine g_iload_n X (pc := 48) 1 rfl rfl dX3_readPacket_48 ?_
        refine g_icmp_lt X (pc := 49) (tgt := 71) dX3_readPacket_49 (by decide) (fun hc => ?_) (fun hc => ?_)
        · have h := (if_pos hc).symm.trans h
          refine g_iconst X (pc := 71) (v := 0) dX3_readPacket_71 (by decide) ?_
          obtain ⟨hz, rfl⟩ := rN_some h
          exact g_nreturn X rfl hz hE dX3_readPacket_72
        · have h := (if_neg hc).symm.trans h
          refine g_iload X (pc := 52) 0 rfl dX3_readPacket_52 ?_
          refine g_iload_n X (pc := 54) 4 rfl rfl dX3_readPacket_54 ?_
          refine g_icmp_gt X (pc := 55) (tgt := 71) dX3_readPacket_55 (by decide) (fun hc => ?_) (fun hc => ?_)
          · have h := (if_pos hc).symm.trans h
            refine g_iconst X (pc := 71) (v := 0) dX3_readPacket_71 (by decide) ?_
            obtain ⟨hz, rfl⟩ := rN_some h
            exact g_nreturn X rfl hz hE dX3_readPacket_72
          · have h := (if_neg hc).symm.trans h
            refine g_aload_n X (pc := 58) 3 rfl rfl dX3_readPacket_58 ?_
            refine g_bipush X (pc := 59) (v := 14) dX3_readPacket_59 (by decide) ?_
            refine g_iload_n X (pc := 61) 1 rfl rfl dX3_readPacket_61 ?_
            refine g_iconst X (pc := 62) (v := 0) dX3_readPacket_62 (by decide) ?_
            obtain ⟨v8, M7, eM7, h⟩ := b2d h
            refine g_callSN X (pc := 63) (M' := M7) (ro := some (pI v8)) (as := [pR a1, pI (14 : Int32), pI ((v2 &&& (15 : Int32)) * (4 : Int32)), pI (0 : Int32)]) (as' := [pI (0 : Int32), pI ((v2 &&& (15 : Int32)) * (4 : Int32)), pI (14 : Int32), pR a1]) (st := []) (ctX11_added _ _ _ _ _ _ fu  a1 (14 : Int32) ((v2 &&& (15 : Int32)) * (4 : Int32)) (0 : Int32) M5 _ eM7) tb_622 (List.mem_of_getElem? (i := 14) rfl) tb_621 tb_1 hyX11_added rfl rfl ⟨by decide, by decide⟩ (Nat.le_of_ble_eq_true rfl) dX3_readPacket_63 ?_
            refine g_ldc X (pc := 66) tb_718 dX3_readPacket_66 ?_
            refine g_icmp_eq X (pc := 68) (tgt := 73) dX3_readPacket_68 (by decide) (fun hc => ?_) (fun hc => ?_)
            · have h := (if_pos hc).symm.trans h
              refine g_aload_n X (pc := 73) 2 rfl rfl dX3_readPacket_73 ?_
              refine g_aload_n X (pc := 74) 3 rfl rfl dX3_readPacket_74 ?_
              refine g_bipush X (pc := 75) (v := 26) dX3_readPacket_75 (by decide) ?_
              obtain ⟨v10, M9, eM9, h⟩ := b2d h
              refine g_callSN X (pc := 77) (M' := M9) (ro := some (pI v10)) (as := [pR a1, pI (26 : Int32)]) (as' := [pI (26 : Int32), pR a1]) (st := [pR (some a0)]) (ctX11_four _ _ _ _ _ _ fu  a1 (26 : Int32) M7 _ eM9) tb_394 (List.mem_of_getElem? (i := 12) rfl) tb_393 tb_1 hyX11_four rfl rfl ⟨by decide, by decide⟩ (Nat.le_of_ble_eq_true rfl) dX3_readPacket_77 ?_
              obtain ⟨M11, eM11, h⟩ := bd h
              refine g_putI X (pc := 80) fk_3_1 rfl rfl rfl eM11 tb_161 (Or.inl rfl) dX3_readPacket_80 ?_
              refine g_aload_n X (pc := 83) 3 rfl rfl dX3_readPacket_83 ?_
              refine g_bipush X (pc := 84) (v := 30) dX3_readPacket_84 (by decide) ?_
              obtain ⟨v13, M12, eM12, h⟩ := b2d h
              refine g_callSN X (pc := 86) (M' := M12) (ro := some (pI v13)) (as := [pR a1, pI (30 : Int32)]) (as' := [pI (30 : Int32), pR a1]) (st := []) (ctX11_four _ _ _ _ _ _ fu  a1 (30 : Int32) M11 _ eM12) tb_394 (List.mem_of_getElem? (i := 12) rfl) tb_393 tb_1 hyX11_four rfl rfl ⟨by decide, by decide⟩ (Nat.le_of_ble_eq_true rfl) dX3_readPacket_86 ?_
              refine g_aload_n X (pc := 89) 2 rfl rfl dX3_readPacket_89 ?_
              obtain ⟨v14, ev14, h⟩ := bd h
              refine g_getR X (pc := 90) fk_3_14 rfl rfl ev14 tb_188 dX3_readPacket_90 ?_
              obtain ⟨v15, ev15, h⟩ := bd h
              refine g_getI X (pc := 93) fk_4_1 rfl rfl ev15 tb_101 dX3_readPacket_93 ?_
              refine g_icmp_ne X (pc := 96) (tgt := 123) dX3_readPacket_96 (by decide) (fun hc => ?_) (fun hc => ?_)
              · have h := (if_neg hc).symm.trans h
                refine g_iconst X (pc := 123) (v := 0) dX3_readPacket_123 (by decide) ?_
                obtain ⟨hz, rfl⟩ := rN_some h
                exact g_nreturn X rfl hz hE dX3_readPacket_124
              · have h := (if_pos hc).symm.trans h
                refine g_aload_n X (pc := 99) 2 rfl rfl dX3_readPacket_99 ?_
                obtain ⟨v16, ev16, h⟩ := bd h
                refine g_getI X (pc := 100) fk_3_1 rfl rfl ev16 tb_161 dX3_readPacket_100 ?_
                refine g_aload_n X (pc := 103) 2 rfl rfl dX3_readPacket_103 ?_
                obtain ⟨v17, ev17, h⟩ := bd h
                refine g_getR X (pc := 104) fk_3_14 rfl rfl ev17 tb_188 dX3_readPacket_104 ?_
                obtain ⟨v18, ev18, h⟩ := bd h
                refine g_getI X (pc := 107) fk_4_1 rfl rfl ev18 tb_101 dX3_readPacket_107 ?_
                refine g_icmp_eq X (pc := 110) (tgt := 123) dX3_readPacket_110 (by decide) (fun hc => ?_) (fun hc => ?_)
                · have h := (if_pos hc).symm.trans h
                  refine g_iconst X (pc := 123) (v := 0) dX3_readPacket_123 (by decide) ?_
                  obtain ⟨hz, rfl⟩ := rN_some h
                  exact g_nreturn X rfl hz hE dX3_readPacket_124
                · have h := (if_neg hc).symm.trans h
                  refine g_aload_n X (pc := 113) 2 rfl rfl dX3_readPacket_113 ?_
                  obtain ⟨v19, ev19, h⟩ := bd h
                  refine g_getI X (pc := 114) fk_3_1 rfl rfl ev19 tb_161 dX3_readPacket_114 ?_
                  obtain ⟨v21, M20, eM20, h⟩ := b2d h
                  refine g_callSN X (pc := 117) (M' := M20) (ro := some (pI v21)) (as := [pI v19]) (as' := [pI v19]) (st := []) (ctX11_isHostNumber _ _ _ _ _ _ fu  v19 M12 _ eM20) tb_387 (List.mem_of_getElem? (i := 15) rfl) tb_386 tb_1 hyX11_isHostNumber rfl rfl ⟨by decide, by decide⟩ (Nat.le_of_ble_eq_true rfl) dX3_readPacket_117 ?_
                  refine g_if_ne X (pc := 120) (tgt := 125) dX3_readPacket_120 (by decide) (fun hc => ?_) (fun hc => ?_)
                  · have h := (if_neg hc).symm.trans h
                    refine g_aload_n X (pc := 125) 2 rfl rfl dX3_readPacket_125 ?_
                    refine g_aload_n X (pc := 126) 3 rfl rfl dX3_readPacket_126 ?_
                    refine g_bipush X (pc := 127) (v := 23) dX3_readPacket_127 (by decide) ?_
                    obtain ⟨v23, M22, eM22, h⟩ := b2d h
                    refine g_callSN X (pc := 129) (M' := M22) (ro := some (pI v23)) (as := [pR a1, pI (23 : Int32)]) (as' := [pI (23 : Int32), pR a1]) (st := [pR (some a0)]) (ctX11_one _ _ _ _ _ _ fu  a1 (23 : Int32) M20 _ eM22) tb_415 (List.mem_of_getElem? (i := 13) rfl) tb_414 tb_1 hyX11_one rfl rfl ⟨by decide, by decide⟩ (Nat.le_of_ble_eq_true rfl) dX3_readPacket_129 ?_
                    obtain ⟨M24, eM24, h⟩ := bd h
                    refine g_putI X (pc := 132) fk_3_12 rfl rfl rfl eM24 tb_186 (Or.inl rfl) dX3_readPacket_132 ?_
                    refine g_aload_n X (pc := 135) 2 rfl rfl dX3_readPacket_135 ?_
                    refine g_aload_n X (pc := 136) 3 rfl rfl dX3_readPacket_136 ?_
                    obtain ⟨M25, eM25, h⟩ := bd h
                    refine g_putG X (pc := 137) fk_3_0 rfl rfl rfl eM25 tb_158 (Or.inl rfl) dX3_readPacket_137 ?_
                    refine g_aload_n X (pc := 140) 2 rfl rfl dX3_readPacket_140 ?_
                    refine g_bipush X (pc := 141) (v := 14) dX3_readPacket_141 (by decide) ?_
                    refine g_iload_n X (pc := 143) 1 rfl rfl dX3_readPacket_143 ?_
                    refine g_iadd X (pc := 144) dX3_readPacket_144 ?_
                    obtain ⟨M26, eM26, h⟩ := bd h
                    refine g_putI X (pc := 145) fk_3_10 rfl rfl rfl eM26 tb_184 (Or.inl rfl) dX3_readPacket_145 ?_
                    refine g_aload_n X (pc := 148) 2 rfl rfl dX3_readPacket_148 ?_
                    refine g_iload X (pc := 149) 0 rfl dX3_readPacket_149 ?_
                    refine g_iload_n X (pc := 151) 1 rfl rfl dX3_readPacket_151 ?_
                    refine g_isub X (pc := 152) dX3_readPacket_152 ?_
                    obtain ⟨M27, eM27, h⟩ := bd h
                    refine g_putI X (pc := 153) fk_3_11 rfl rfl rfl eM27 tb_185 (Or.inl rfl) dX3_readPacket_153 ?_
                    refine g_aload_n X (pc := 156) 3 rfl rfl dX3_readPacket_156 ?_
                    refine g_bipush X (pc := 157) (v := 20) dX3_readPacket_157 (by decide) ?_
                    obtain ⟨v29, M28, eM28, h⟩ := b2d h
                    refine g_callSN X (pc := 159) (M' := M28) (ro := some (pI v29)) (as := [pR a1, pI (20 : Int32)]) (as' := [pI (20 : Int32), pR a1]) (st := []) (ctX11_two _ _ _ _ _ _ fu  a1 (20 : Int32) M27 _ eM28) tb_398 (List.mem_of_getElem? (i := 11) rfl) tb_397 tb_1 hyX11_two rfl rfl ⟨by decide, by decide⟩ (Nat.le_of_ble_eq_true rfl) dX3_readPacket_159 ?_
                    refine g_sipush X (pc := 162) (v := 16383) dX3_readPacket_162 (by decide) ?_
                    refine g_iand X (pc := 165) dX3_readPacket_165 ?_
                    refine g_istore X (pc := 166) [(5, pI (v29 &&& (16383 : Int32))), (4, pI v4), (3, pI ((v2 &&& (15 : Int32)) * (4 : Int32))), (0, pR (some a0)), (1, pR a1), (2, pI a2)] (lt_n hn (by decide)) rfl dX3_readPacket_166 ?_
                    refine g_iload X (pc := 168) 0 rfl dX3_readPacket_168 ?_
                    refine g_if_eq X (pc := 170) (tgt := 188) dX3_readPacket_170 (by decide) (fun hc => ?_) (fun hc => ?_)
                    · have h := (if_pos hc).symm.trans h
                      refine g_iconst X (pc := 188) (v := 1) dX3_readPacket_188 (by decide) ?_
                      refine g_goto X (pc := 189) (tgt := 193) dX3_readPacket_189 (by decide) ?_
                      obtain ⟨hz, rfl⟩ := rN_some h
                      exact g_nreturn X rfl hz hE dX3_readPacket_193
                    · have h := (if_neg hc).symm.trans h
                      refine g_aload_n X (pc := 173) 3 rfl rfl dX3_readPacket_173 ?_
                      refine g_aload_n X (pc := 174) 4 rfl rfl dX3_readPacket_174 ?_
                      refine g_bipush X (pc := 175) (v := 18) dX3_readPacket_175 (by decide) ?_
                      obtain ⟨v31, M30, eM30, h⟩ := b2d h
                      refine g_callSN X (pc := 177) (M' := M30) (ro := some (pI v31)) (as := [pR a1, pI (18 : Int32)]) (as' := [pI (18 : Int32), pR a1]) (st := [pR (some a0)]) (ctX11_two _ _ _ _ _ _ fu  a1 (18 : Int32) M28 _ eM30) tb_398 (List.mem_of_getElem? (i := 11) rfl) tb_397 tb_1 hyX11_two rfl rfl ⟨by decide, by decide⟩ (Nat.le_of_ble_eq_true rfl) dX3_readPacket_177 ?_
                      refine g_iload X (pc := 180) 0 rfl dX3_readPacket_180 ?_
                      obtain ⟨q32, eq32, h⟩ := bd h
                      obtain ⟨v34, M33, eM33, h⟩ := b2d h
                      refine g_callV X (pc := 182) (M' := M33) (ro := some (pI v34)) (c := 3) rfl (by decide) (as := [pI v31, pI (v29 &&& (16383 : Int32))]) (as' := [pI (v29 &&& (16383 : Int32)), pI v31]) (st := []) eq32 (ctX3_gather _ _ _ _ _ _ fu q32 v31 (v29 &&& (16383 : Int32)) M30 _ eM33) tb_729 tb_726 tb_728 ts_24 tb_5 ⟨rfl, hyX3_gather⟩ rfl rfl ⟨by decide, by decide⟩ (Nat.le_of_ble_eq_true rfl) dX3_readPacket_182 ?_
                      refine g_if_eq X (pc := 185) (tgt := 192) dX3_readPacket_185 (by decide) (fun hc => ?_) (fun hc => ?_)
                      · have h := (if_pos hc).symm.trans h
                        refine g_iconst X (pc := 192) (v := 0) dX3_readPacket_192 (by decide) ?_
                        obtain ⟨hz, rfl⟩ := rN_some h
                        exact g_nreturn X rfl hz hE dX3_readPacket_193
                      · have h := (if_neg hc).symm.trans h
                        refine g_iconst X (pc := 188) (v := 1) dX3_readPacket_188 (by decide) ?_
                        refine g_goto X (pc := 189) (tgt := 193) dX3_readPacket_189 (by decide) ?_
                        obtain ⟨hz, rfl⟩ := rN_some h
                        exact g_nreturn X rfl hz hE dX3_readPacket_193
                  · have h := (if_pos hc).symm.trans h
                    refine g_iconst X (pc := 123) (v := 0) dX3_readPacket_123 (by decide) ?_
                    obtain ⟨hz, rfl⟩ := rN_some h
                    exact g_nreturn X rfl hz hE dX3_readPacket_124
            · have h := (if_neg hc).symm.trans h
              refine g_iconst X (pc := 71) (v := 0) dX3_readPacket_71 (by decide) ?_
              obtain ⟨hz, rfl⟩ := rN_some h
              exact g_nreturn X rfl hz hE dX3_readPacket_72
      · have h := (if_neg hc).symm.trans h
        refine g_iconst X (pc := 44) (v := 0) dX3_readPacket_44 (by decide) ?_
        obtain ⟨hz, rfl⟩ := rN_some h
        exact g_nreturn X rfl hz hE dX3_readPacket_45
theorem hyX3_readPacket : yX3_readPacket.cls ≠ "java/lang/invoke/MethodHandle" ∧ yX3_readPacket.cls ≠ "java/lang/invoke/VarHandle" ∧ (parseMethodDescriptor yX3_readPacket.desc).map (fun d => d.parameters.length) = some 2 := ⟨by decide +kernel, by decide +kernel, by decide +kernel⟩
theorem ctX3_readPacket (l : Launch) (E : Nat → Nat) (D : va_G) (dA : Nat → ClassId) (lo : Nat) (H0 : Heap) (fu : Nat) (a0 : Nat) (a1 : Option Nat) (a2 : Int32) (M : Mm) (out : Int32 × Mm) (h : fX3_readPacket fu a0 a1 a2 M = some out) : Ct l E D dA lo H0 yX3_readPacket cX3_readPacket 6 (some .boolean) 4 96 [pR (some a0), pR a1, pI a2] M (some (pI out.1)) out.2 := by
  refine ct_of (by decide +kernel) (Nat.le_of_ble_eq_true rfl) ?_
  intro x hl he hd ha ho hh hn hin X hE
  exact wX3_readPacket X hE hn fu a0 a1 a2 M h
/-! WebHost$Intake.read([BI)I -/
def fX3_read (fu : Nat)  (a0 : Nat) (a1 : Option Nat) (a2 : Int32)  (M : Mm) : Option (Int32 × Mm) :=
    if a2 < (14 : Int32) then (
    some ((0 : Int32), M))
    else (
    (rc M 3 (some a0)).bind fun q1 =>
    b2 (fX3_isForUs fu q1 a1 M) fun v3 M2 =>
    if v3 = 0 then (
    some ((0 : Int32), M2))
    else (
    b2 (fX11_two fu  a1 (12 : Int32) M2) fun v5 M4 =>
    if v5 = (2054 : Int32) then (
    some ((2054 : Int32), M4))
    else (
    if v5 = (2048 : Int32) then (
    (rc M4 3 (some a0)).bind fun q6 =>
    b2 (fX3_readPacket fu q6 a1 (a2 - (14 : Int32)) M4) fun v8 M7 =>
    if v8 = 0 then (
    some ((0 : Int32), M7))
    else (
    (gI M7 3 204 (some a0)).bind fun v9 =>
    some (v9, M7)))
    else (
    some ((0 : Int32), M4)))))
theorem dX3_read_0 : decode cX3_read 0 = .ok (.iload_n 2, 1) := by decide +kernel
theorem dX3_read_1 : decode cX3_read 1 = .ok (.bipush 14, 2) := by decide +kernel
theorem dX3_read_3 : decode cX3_read 3 = .ok (.if_icmp .lt 11, 3) := by decide +kernel
theorem dX3_read_6 : decode cX3_read 6 = .ok (.aload_n 0, 1) := by decide +kernel
theorem dX3_read_7 : decode cX3_read 7 = .ok (.aload_n 1, 1) := by decide +kernel
theorem dX3_read_8 : decode cX3_read 8 = .ok (.invokevirtual 33, 3) := by decide +kernel
theorem dX3_read_11 : decode cX3_read 11 = .ok (.ifCond .ne 5, 3) := by decide +kernel
theorem dX3_read_14 : decode cX3_read 14 = .ok (.iconst 0, 1) := by decide +kernel
theorem dX3_read_15 : decode cX3_read 15 = .ok (.ireturn, 1) := by decide +kernel
theorem dX3_read_16 : decode cX3_read 16 = .ok (.aload_n 1, 1) := by decide +kernel
theorem dX3_read_17 : decode cX3_read 17 = .ok (.bipush 12, 2) := by decide +kernel
theorem dX3_read_19 : decode cX3_read 19 = .ok (.invokestatic 37, 3) := by decide +kernel
theorem dX3_read_22 : decode cX3_read 22 = .ok (.istore_n 3, 1) := by decide +kernel
theorem dX3_read_23 : decode cX3_read 23 = .ok (.iload_n 3, 1) := by decide +kernel
theorem dX3_read_24 : decode cX3_read 24 = .ok (.sipush 2054, 3) := by decide +kernel
theorem dX3_read_27 : decode cX3_read 27 = .ok (.if_icmp .ne 7, 3) := by decide +kernel
theorem dX3_read_30 : decode cX3_read 30 = .ok (.sipush 2054, 3) := by decide +kernel
theorem dX3_read_33 : decode cX3_read 33 = .ok (.ireturn, 1) := by decide +kernel
theorem dX3_read_34 : decode cX3_read 34 = .ok (.iload_n 3, 1) := by decide +kernel
theorem dX3_read_35 : decode cX3_read 35 = .ok (.sipush 2048, 3) := by decide +kernel
theorem dX3_read_38 : decode cX3_read 38 = .ok (.if_icmp .ne 22, 3) := by decide +kernel
theorem dX3_read_41 : decode cX3_read 41 = .ok (.aload_n 0, 1) := by decide +kernel
theorem dX3_read_42 : decode cX3_read 42 = .ok (.aload_n 1, 1) := by decide +kernel
theorem dX3_read_43 : decode cX3_read 43 = .ok (.iload_n 2, 1) := by decide +kernel
theorem dX3_read_44 : decode cX3_read 44 = .ok (.bipush 14, 2) := by decide +kernel
theorem dX3_read_46 : decode cX3_read 46 = .ok (.isub, 1) := by decide +kernel
theorem dX3_read_47 : decode cX3_read 47 = .ok (.invokevirtual 41, 3) := by decide +kernel
theorem dX3_read_50 : decode cX3_read 50 = .ok (.ifCond .eq 10, 3) := by decide +kernel
theorem dX3_read_53 : decode cX3_read 53 = .ok (.aload_n 0, 1) := by decide +kernel
theorem dX3_read_54 : decode cX3_read 54 = .ok (.getfield 45, 3) := by decide +kernel
theorem dX3_read_57 : decode cX3_read 57 = .ok (.goto 4, 3) := by decide +kernel
theorem dX3_read_60 : decode cX3_read 60 = .ok (.iconst 0, 1) := by decide +kernel
theorem dX3_read_61 : decode cX3_read 61 = .ok (.ireturn, 1) := by decide +kernel
theorem wX3_read {x : GX} {n0 sl0 : Nat} (X : Cx x cX3_read RX3 (some .int) n0 sl0 5 121) {out : Int32 × Mm} (hE : Ends x n0 sl0 (some (pI out.1)) out.2) (hn : xn x = 4) (fu : Nat)   (a0 : Nat) (a1 : Option Nat) (a2 : Int32)  (M : Mm) (h : fX3_read fu  a0 a1 a2 M = some out) : Gw x M 0 [(0, pR (some a0)), (1, pR a1), (2, pI a2)] [] := by
  unfold fX3_read at h
  refine g_iload_n X (pc := 0) 2 rfl rfl dX3_read_0 ?_
  refine g_bipush X (pc := 1) (v := 14) dX3_read_1 (by decide) ?_
  refine g_icmp_lt X (pc := 3) (tgt := 14) dX3_read_3 (by decide) (fun hc => ?_) (fun hc => ?_)
  · have h := (if_pos hc).symm.trans h
    refine g_iconst X (pc := 14) (v := 0) dX3_read_14 (by decide) ?_
    obtain rfl := Option.some.inj h
    exact g_ireturn X hE dX3_read_15
  · have h := (if_neg hc).symm.trans h
    refine g_aload_n X (pc := 6) 0 rfl rfl dX3_read_6 ?_
    refine g_aload_n X (pc := 7) 1 rfl rfl dX3_read_7 ?_
    obtain ⟨q1, eq1, h⟩ := bd h
    obtain ⟨v3, M2, eM2, h⟩ := b2d h
    refine g_callV X (pc := 8) (M' := M2) (ro := some (pI v3)) (c := 3) rfl (by decide) (as := [pR a1]) (as' := [pR a1]) (st := []) eq1 (ctX3_isForUs _ _ _ _ _ _ fu q1 a1 M _ eM2) tb_715 tb_712 tb_714 ts_22 tb_5 ⟨rfl, hyX3_isForUs⟩ rfl rfl ⟨by decide, by decide⟩ (Nat.le_of_ble_eq_true rfl) dX3_read_8 ?_
    refine g_if_ne X (pc := 11) (tgt := 16) dX3_read_11 (by decide) (fun hc => ?_) (fun hc => ?_)
    · have h := (if_neg hc).symm.trans h
      refine g_aload_n X (pc := 16) 1 rfl rfl dX3_read_16 ?_
      refine g_bipush X (pc := 17) (v := 12) dX3_read_17 (by decide) ?_
      obtain ⟨v5, M4, eM4, h⟩ := b2d h
      refine g_callSN X (pc := 19) (M' := M4) (ro := some (pI v5)) (as := [pR a1, pI (12 : Int32)]) (as' := [pI (12 : Int32), pR a1]) (st := []) (ctX11_two _ _ _ _ _ _ fu  a1 (12 : Int32) M2 _ eM4) tb_398 (List.mem_of_getElem? (i := 11) rfl) tb_397 tb_1 hyX11_two rfl rfl ⟨by decide, by decide⟩ (Nat.le_of_ble_eq_true rfl) dX3_read_19 ?_
      refine g_istore_n X (pc := 22) [(3, pI v5), (0, pR (some a0)), (1, pR a1), (2, pI a2)] rfl (lt_n hn (by decide)) rfl dX3_read_22 ?_
      refine g_iload_n X (pc := 23) 0 rfl rfl dX3_read_23 ?_
      refine g_sipush X (pc := 24) (v := 2054) dX3_read_24 (by decide) ?_
      refine g_icmp_ne X (pc := 27) (tgt := 34) dX3_read_27 (by decide) (fun hc => ?_) (fun hc => ?_)
      · have h := (if_neg hc).symm.trans h
        refine g_iload_n X (pc := 34) 0 rfl rfl dX3_read_34 ?_
        refine g_sipush X (pc := 35) (v := 2048) dX3_read_35 (by decide) ?_
        refine g_icmp_ne X (pc := 38) (tgt := 60) dX3_read_38 (by decide) (fun hc => ?_) (fun hc => ?_)
        · have h := (if_neg hc).symm.trans h
          refine g_iconst X (pc := 60) (v := 0) dX3_read_60 (by decide) ?_
          obtain rfl := Option.some.inj h
          exact g_ireturn X hE dX3_read_61
        · have h := (if_pos hc).symm.trans h
          refine g_aload_n X (pc := 41) 1 rfl rfl dX3_read_41 ?_
          refine g_aload_n X (pc := 42) 2 rfl rfl dX3_read_42 ?_
          refine g_iload_n X (pc := 43) 3 rfl rfl dX3_read_43 ?_
          refine g_bipush X (pc := 44) (v := 14) dX3_read_44 (by decide) ?_
          refine g_isub X (pc := 46) dX3_read_46 ?_
          obtain ⟨q6, eq6, h⟩ := bd h
          obtain ⟨v8, M7, eM7, h⟩ := b2d h
          refine g_callV X (pc := 47) (M' := M7) (ro := some (pI v8)) (c := 3) rfl (by decide) (as := [pR a1, pI (a2 - (14 : Int32))]) (as' := [pI (a2 - (14 : Int32)), pR a1]) (st := []) eq6 (ctX3_readPacket _ _ _ _ _ _ fu q6 a1 (a2 - (14 : Int32)) M4 _ eM7) tb_722 tb_719 tb_721 ts_23 tb_5 ⟨rfl, hyX3_readPacket⟩ rfl rfl ⟨by decide, by decide⟩ (Nat.le_of_ble_eq_true rfl) dX3_read_47 ?_
          refine g_if_eq X (pc := 50) (tgt := 60) dX3_read_50 (by decide) (fun hc => ?_) (fun hc => ?_)
          · have h := (if_pos hc).symm.trans h
            refine g_iconst X (pc := 60) (v := 0) dX3_read_60 (by decide) ?_
            obtain rfl := Option.some.inj h
            exact g_ireturn X hE dX3_read_61
          · have h := (if_neg hc).symm.trans h
            refine g_aload_n X (pc := 53) 1 rfl rfl dX3_read_53 ?_
            obtain ⟨v9, ev9, h⟩ := bd h
            refine g_getI X (pc := 54) fk_3_12 rfl rfl ev9 tb_186 dX3_read_54 ?_
            refine g_goto X (pc := 57) (tgt := 61) dX3_read_57 (by decide) ?_
            obtain rfl := Option.some.inj h
            exact g_ireturn X hE dX3_read_61
      · have h := (if_pos hc).symm.trans h
        refine g_sipush X (pc := 30) (v := 2054) dX3_read_30 (by decide) ?_
        obtain rfl := Option.some.inj h
        exact g_ireturn X hE dX3_read_33
    · have h := (if_pos hc).symm.trans h
      refine g_iconst X (pc := 14) (v := 0) dX3_read_14 (by decide) ?_
      obtain rfl := Option.some.inj h
      exact g_ireturn X hE dX3_read_15
theorem hyX3_read : yX3_read.cls ≠ "java/lang/invoke/MethodHandle" ∧ yX3_read.cls ≠ "java/lang/invoke/VarHandle" ∧ (parseMethodDescriptor yX3_read.desc).map (fun d => d.parameters.length) = some 2 := ⟨by decide +kernel, by decide +kernel, by decide +kernel⟩
theorem ctX3_read (l : Launch) (E : Nat → Nat) (D : va_G) (dA : Nat → ClassId) (lo : Nat) (H0 : Heap) (fu : Nat) (a0 : Nat) (a1 : Option Nat) (a2 : Int32) (M : Mm) (out : Int32 × Mm) (h : fX3_read fu a0 a1 a2 M = some out) : Ct l E D dA lo H0 yX3_read cX3_read 4 (some .int) 5 121 [pR (some a0), pR a1, pI a2] M (some (pI out.1)) out.2 := by
  refine ct_of (by decide +kernel) (Nat.le_of_ble_eq_true rfl) ?_
  intro x hl he hd ha ho hh hn hin X hE
  exact wX3_read X hE hn fu a0 a1 a2 M h
/-! WebHost$Intake.earliest()I -/
def fX3_earliest (fu : Nat)  (a0 : Nat)  (M : Mm) : Option (Int32 × Mm) :=
    (gR M 3 207 (some a0)).bind fun v1 =>
    (gB M 112 v1 (0 : Int32)).bind fun v2 =>
    (gI M 3 208 (some a0)).bind fun v3 =>
    if v3 = 0 then (
    some ((2147483647 : Int32), M))
    else (
    if v2 = none then (
    some ((2147483647 : Int32), M))
    else (
    (gI M 2 132 v2).bind fun v4 =>
    some ((v4 + (15000 : Int32)), M)))
theorem dX3_earliest_0 : decode cX3_earliest 0 = .ok (.aload_n 0, 1) := by decide +kernel
theorem dX3_earliest_1 : decode cX3_earliest 1 = .ok (.getfield 25, 3) := by decide +kernel
theorem dX3_earliest_4 : decode cX3_earliest 4 = .ok (.iconst 0, 1) := by decide +kernel
theorem dX3_earliest_5 : decode cX3_earliest 5 = .ok (.aaload, 1) := by decide +kernel
theorem dX3_earliest_6 : decode cX3_earliest 6 = .ok (.astore_n 1, 1) := by decide +kernel
theorem dX3_earliest_7 : decode cX3_earliest 7 = .ok (.aload_n 0, 1) := by decide +kernel
theorem dX3_earliest_8 : decode cX3_earliest 8 = .ok (.getfield 29, 3) := by decide +kernel
theorem dX3_earliest_11 : decode cX3_earliest 11 = .ok (.ifCond .eq 7, 3) := by decide +kernel
theorem dX3_earliest_14 : decode cX3_earliest 14 = .ok (.aload_n 1, 1) := by decide +kernel
theorem dX3_earliest_15 : decode cX3_earliest 15 = .ok (.ifnonnull 8, 3) := by decide +kernel
theorem dX3_earliest_18 : decode cX3_earliest 18 = .ok (.ldc 131, 2) := by decide +kernel
theorem dX3_earliest_20 : decode cX3_earliest 20 = .ok (.goto 11, 3) := by decide +kernel
theorem dX3_earliest_23 : decode cX3_earliest 23 = .ok (.aload_n 1, 1) := by decide +kernel
theorem dX3_earliest_24 : decode cX3_earliest 24 = .ok (.getfield 132, 3) := by decide +kernel
theorem dX3_earliest_27 : decode cX3_earliest 27 = .ok (.sipush 15000, 3) := by decide +kernel
theorem dX3_earliest_30 : decode cX3_earliest 30 = .ok (.iadd, 1) := by decide +kernel
theorem dX3_earliest_31 : decode cX3_earliest 31 = .ok (.ireturn, 1) := by decide +kernel
theorem wX3_earliest {x : GX} {n0 sl0 : Nat} (X : Cx x cX3_earliest RX3 (some .int) n0 sl0 0 0) {out : Int32 × Mm} (hE : Ends x n0 sl0 (some (pI out.1)) out.2) (hn : xn x = 2) (fu : Nat)   (a0 : Nat)  (M : Mm) (h : fX3_earliest fu  a0 M = some out) : Gw x M 0 [(0, pR (some a0))] [] := by
  unfold fX3_earliest at h
  refine g_aload_n X (pc := 0) 0 rfl rfl dX3_earliest_0 ?_
  obtain ⟨v1, ev1, h⟩ := bd h
  refine g_getR X (pc := 1) fk_3_15 rfl rfl ev1 tb_189 dX3_earliest_1 ?_
  refine g_iconst X (pc := 4) (v := 0) dX3_earliest_4 (by decide) ?_
  obtain ⟨v2, ev2, h⟩ := bd h
  refine g_aaload X (pc := 5) (k := 4) rfl rfl (by decide) ev2 dX3_earliest_5 ?_
  refine g_astore_n X (pc := 6) [(1, pR v2), (0, pR (some a0))] rfl (lt_n hn (by decide)) rfl dX3_earliest_6 ?_
  refine g_aload_n X (pc := 7) 1 rfl rfl dX3_earliest_7 ?_
  obtain ⟨v3, ev3, h⟩ := bd h
  refine g_getI X (pc := 8) fk_3_16 rfl rfl ev3 tb_190 dX3_earliest_8 ?_
  refine g_if_eq X (pc := 11) (tgt := 18) dX3_earliest_11 (by decide) (fun hc => ?_) (fun hc => ?_)
  · have h := (if_pos hc).symm.trans h
    refine g_ldc X (pc := 18) tb_482 dX3_earliest_18 ?_
    refine g_goto X (pc := 20) (tgt := 31) dX3_earliest_20 (by decide) ?_
    obtain rfl := Option.some.inj h
    exact g_ireturn X hE dX3_earliest_31
  · have h := (if_neg hc).symm.trans h
    refine g_aload_n X (pc := 14) 0 rfl rfl dX3_earliest_14 ?_
    refine g_ifnonnull X (pc := 15) (tgt := 23) dX3_earliest_15 (by decide) (fun hc => ?_) (fun hc => ?_)
    · have h := (if_neg hc).symm.trans h
      refine g_aload_n X (pc := 23) 0 rfl rfl dX3_earliest_23 ?_
      obtain ⟨v4, ev4, h⟩ := bd h
      refine g_getI X (pc := 24) fk_2_4 rfl rfl ev4 tb_749 dX3_earliest_24 ?_
      refine g_sipush X (pc := 27) (v := 15000) dX3_earliest_27 (by decide) ?_
      refine g_iadd X (pc := 30) dX3_earliest_30 ?_
      obtain rfl := Option.some.inj h
      exact g_ireturn X hE dX3_earliest_31
    · have h := (if_pos hc).symm.trans h
      refine g_ldc X (pc := 18) tb_482 dX3_earliest_18 ?_
      refine g_goto X (pc := 20) (tgt := 31) dX3_earliest_20 (by decide) ?_
      obtain rfl := Option.some.inj h
      exact g_ireturn X hE dX3_earliest_31
theorem hyX3_earliest : yX3_earliest.cls ≠ "java/lang/invoke/MethodHandle" ∧ yX3_earliest.cls ≠ "java/lang/invoke/VarHandle" ∧ (parseMethodDescriptor yX3_earliest.desc).map (fun d => d.parameters.length) = some 0 := ⟨by decide +kernel, by decide +kernel, by decide +kernel⟩
theorem ctX3_earliest (l : Launch) (E : Nat → Nat) (D : va_G) (dA : Nat → ClassId) (lo : Nat) (H0 : Heap) (fu : Nat) (a0 : Nat) (M : Mm) (out : Int32 × Mm) (h : fX3_earliest fu a0 M = some out) : Ct l E D dA lo H0 yX3_earliest cX3_earliest 2 (some .int) 0 0 [pR (some a0)] M (some (pI out.1)) out.2 := by
  refine ct_of (by decide +kernel) (Nat.le_of_ble_eq_true rfl) ?_
  intro x hl he hd ha ho hh hn hin X hE
  exact wX3_earliest X hE hn fu a0 M h
/-! WebHost$Intake.expire(I)Z -/
def fX3_expire (fu : Nat)  (a0 : Nat) (a1 : Int32)  (M : Mm) : Option (Int32 × Mm) :=
    (rc M 3 (some a0)).bind fun q1 =>
    b2 (fX3_earliest fu q1  M) fun v3 M2 =>
    if v3 = a1 then (
    (rc M2 3 (some a0)).bind fun q4 =>
    (fX3_dropDatagram fu q4 (0 : Int32) M2).bind fun M5 =>
    rN .boolean (1 : Int32) M5)
    else (
    rN .boolean (0 : Int32) M2)
theorem dX3_expire_0 : decode cX3_expire 0 = .ok (.aload_n 0, 1) := by decide +kernel
theorem dX3_expire_1 : decode cX3_expire 1 = .ok (.invokevirtual 135, 3) := by decide +kernel
theorem dX3_expire_4 : decode cX3_expire 4 = .ok (.iload_n 1, 1) := by decide +kernel
theorem dX3_expire_5 : decode cX3_expire 5 = .ok (.if_icmp .eq 5, 3) := by decide +kernel
theorem dX3_expire_8 : decode cX3_expire 8 = .ok (.iconst 0, 1) := by decide +kernel
theorem dX3_expire_9 : decode cX3_expire 9 = .ok (.ireturn, 1) := by decide +kernel
theorem dX3_expire_10 : decode cX3_expire 10 = .ok (.aload_n 0, 1) := by decide +kernel
theorem dX3_expire_11 : decode cX3_expire 11 = .ok (.iconst 0, 1) := by decide +kernel
theorem dX3_expire_12 : decode cX3_expire 12 = .ok (.invokevirtual 95, 3) := by decide +kernel
theorem dX3_expire_15 : decode cX3_expire 15 = .ok (.iconst 1, 1) := by decide +kernel
theorem dX3_expire_16 : decode cX3_expire 16 = .ok (.ireturn, 1) := by decide +kernel
theorem wX3_expire {x : GX} {n0 sl0 : Nat} (X : Cx x cX3_expire RX3 (some .boolean) n0 sl0 1 23) {out : Int32 × Mm} (hE : Ends x n0 sl0 (some (pI out.1)) out.2) (hn : xn x = 2) (fu : Nat)   (a0 : Nat) (a1 : Int32)  (M : Mm) (h : fX3_expire fu  a0 a1 M = some out) : Gw x M 0 [(0, pR (some a0)), (1, pI a1)] [] := by
  unfold fX3_expire at h
  refine g_aload_n X (pc := 0) 0 rfl rfl dX3_expire_0 ?_
  obtain ⟨q1, eq1, h⟩ := bd h
  obtain ⟨v3, M2, eM2, h⟩ := b2d h
  refine g_callV X (pc := 1) (M' := M2) (ro := some (pI v3)) (c := 3) rfl (by decide) (as := []) (as' := []) (st := []) eq1 (ctX3_earliest _ _ _ _ _ _ fu q1  M _ eM2) tb_481 tb_573 tb_479 tb_480 tb_5 ⟨rfl, hyX3_earliest⟩ rfl rfl ⟨by decide, by decide⟩ (Nat.le_of_ble_eq_true rfl) dX3_expire_1 ?_
  refine g_iload_n X (pc := 4) 1 rfl rfl dX3_expire_4 ?_
  refine g_icmp_eq X (pc := 5) (tgt := 10) dX3_expire_5 (by decide) (fun hc => ?_) (fun hc => ?_)
  · have h := (if_pos hc).symm.trans h
    refine g_aload_n X (pc := 10) 0 rfl rfl dX3_expire_10 ?_
    refine g_iconst X (pc := 11) (v := 0) dX3_expire_11 (by decide) ?_
    obtain ⟨q4, eq4, h⟩ := bd h
    obtain ⟨M5, eM5, h⟩ := bd h
    refine g_callV X (pc := 12) (M' := M5) (ro := none) (c := 3) rfl (by decide) (as := [pI (0 : Int32)]) (as' := [pI (0 : Int32)]) (st := []) eq4 (ctX3_dropDatagram _ _ _ _ _ _ fu q4 (0 : Int32) M2 _ eM5) tb_577 tb_574 tb_576 ts_10 tb_5 ⟨rfl, hyX3_dropDatagram⟩ rfl rfl ⟨by decide, by decide⟩ (Nat.le_of_ble_eq_true rfl) dX3_expire_12 ?_
    refine g_iconst X (pc := 15) (v := 1) dX3_expire_15 (by decide) ?_
    obtain ⟨hz, rfl⟩ := rN_some h
    exact g_nreturn X rfl hz hE dX3_expire_16
  · have h := (if_neg hc).symm.trans h
    refine g_iconst X (pc := 8) (v := 0) dX3_expire_8 (by decide) ?_
    obtain ⟨hz, rfl⟩ := rN_some h
    exact g_nreturn X rfl hz hE dX3_expire_9
theorem hyX3_expire : yX3_expire.cls ≠ "java/lang/invoke/MethodHandle" ∧ yX3_expire.cls ≠ "java/lang/invoke/VarHandle" ∧ (parseMethodDescriptor yX3_expire.desc).map (fun d => d.parameters.length) = some 1 := ⟨by decide +kernel, by decide +kernel, by decide +kernel⟩
theorem ctX3_expire (l : Launch) (E : Nat → Nat) (D : va_G) (dA : Nat → ClassId) (lo : Nat) (H0 : Heap) (fu : Nat) (a0 : Nat) (a1 : Int32) (M : Mm) (out : Int32 × Mm) (h : fX3_expire fu a0 a1 M = some out) : Ct l E D dA lo H0 yX3_expire cX3_expire 2 (some .boolean) 1 23 [pR (some a0), pI a1] M (some (pI out.1)) out.2 := by
  refine ct_of (by decide +kernel) (Nat.le_of_ble_eq_true rfl) ?_
  intro x hl he hd ha ho hh hn hin X hE
  exact wX3_expire X hE hn fu a0 a1 M h
/-! WebHost.putFour([BII)V -/
def fX11_putFour (fu : Nat)  (a0 : Option Nat) (a1 : Int32) (a2 : Int32)  (M : Mm) : Option (Mm) :=
    if a1 < 0 then (
    some M)
    else (
    (aL M 100 a0).bind fun v1 =>
    if (v1 - (4 : Int32)) < a1 then (
    some M)
    else (
    (pA M 100 a0 a1 (Int8.toInt32 (Int32.toInt8 (Int8.toInt32 (Int32.toInt8 (a2 >>> ((24 : Int32) &&& 31))))))).bind fun M2 =>
    (pA M2 100 a0 (a1 + (1 : Int32)) (Int8.toInt32 (Int32.toInt8 (Int8.toInt32 (Int32.toInt8 (a2 >>> ((16 : Int32) &&& 31))))))).bind fun M3 =>
    (pA M3 100 a0 (a1 + (2 : Int32)) (Int8.toInt32 (Int32.toInt8 (Int8.toInt32 (Int32.toInt8 (a2 >>> ((8 : Int32) &&& 31))))))).bind fun M4 =>
    (pA M4 100 a0 (a1 + (3 : Int32)) (Int8.toInt32 (Int32.toInt8 (Int8.toInt32 (Int32.toInt8 a2))))).bind fun M5 =>
    some M5))
theorem dX11_putFour_0 : decode cX11_putFour 0 = .ok (.iload_n 1, 1) := by decide +kernel
theorem dX11_putFour_1 : decode cX11_putFour 1 = .ok (.ifCond .lt 46, 3) := by decide +kernel
theorem dX11_putFour_4 : decode cX11_putFour 4 = .ok (.iload_n 1, 1) := by decide +kernel
theorem dX11_putFour_5 : decode cX11_putFour 5 = .ok (.aload_n 0, 1) := by decide +kernel
theorem dX11_putFour_6 : decode cX11_putFour 6 = .ok (.arraylength, 1) := by decide +kernel
theorem dX11_putFour_7 : decode cX11_putFour 7 = .ok (.iconst 4, 1) := by decide +kernel
theorem dX11_putFour_8 : decode cX11_putFour 8 = .ok (.isub, 1) := by decide +kernel
theorem dX11_putFour_9 : decode cX11_putFour 9 = .ok (.if_icmp .gt 38, 3) := by decide +kernel
theorem dX11_putFour_12 : decode cX11_putFour 12 = .ok (.aload_n 0, 1) := by decide +kernel
theorem dX11_putFour_13 : decode cX11_putFour 13 = .ok (.iload_n 1, 1) := by decide +kernel
theorem dX11_putFour_14 : decode cX11_putFour 14 = .ok (.iload_n 2, 1) := by decide +kernel
theorem dX11_putFour_15 : decode cX11_putFour 15 = .ok (.bipush 24, 2) := by decide +kernel
theorem dX11_putFour_17 : decode cX11_putFour 17 = .ok (.ishr, 1) := by decide +kernel
theorem dX11_putFour_18 : decode cX11_putFour 18 = .ok (.i2b, 1) := by decide +kernel
theorem dX11_putFour_19 : decode cX11_putFour 19 = .ok (.bastore, 1) := by decide +kernel
theorem dX11_putFour_20 : decode cX11_putFour 20 = .ok (.aload_n 0, 1) := by decide +kernel
theorem dX11_putFour_21 : decode cX11_putFour 21 = .ok (.iload_n 1, 1) := by decide +kernel
theorem dX11_putFour_22 : decode cX11_putFour 22 = .ok (.iconst 1, 1) := by decide +kernel
theorem dX11_putFour_23 : decode cX11_putFour 23 = .ok (.iadd, 1) := by decide +kernel
theorem dX11_putFour_24 : decode cX11_putFour 24 = .ok (.iload_n 2, 1) := by decide +kernel
theorem dX11_putFour_25 : decode cX11_putFour 25 = .ok (.bipush 16, 2) := by decide +kernel
theorem dX11_putFour_27 : decode cX11_putFour 27 = .ok (.ishr, 1) := by decide +kernel
theorem dX11_putFour_28 : decode cX11_putFour 28 = .ok (.i2b, 1) := by decide +kernel
theorem dX11_putFour_29 : decode cX11_putFour 29 = .ok (.bastore, 1) := by decide +kernel
theorem dX11_putFour_30 : decode cX11_putFour 30 = .ok (.aload_n 0, 1) := by decide +kernel
theorem dX11_putFour_31 : decode cX11_putFour 31 = .ok (.iload_n 1, 1) := by decide +kernel
theorem dX11_putFour_32 : decode cX11_putFour 32 = .ok (.iconst 2, 1) := by decide +kernel
theorem dX11_putFour_33 : decode cX11_putFour 33 = .ok (.iadd, 1) := by decide +kernel
theorem dX11_putFour_34 : decode cX11_putFour 34 = .ok (.iload_n 2, 1) := by decide +kernel
theorem dX11_putFour_35 : decode cX11_putFour 35 = .ok (.bipush 8, 2) := by decide +kernel
theorem dX11_putFour_37 : decode cX11_putFour 37 = .ok (.ishr, 1) := by decide +kernel
theorem dX11_putFour_38 : decode cX11_putFour 38 = .ok (.i2b, 1) := by decide +kernel
theorem dX11_putFour_39 : decode cX11_putFour 39 = .ok (.bastore, 1) := by decide +kernel
theorem dX11_putFour_40 : decode cX11_putFour 40 = .ok (.aload_n 0, 1) := by decide +kernel
theorem dX11_putFour_41 : decode cX11_putFour 41 = .ok (.iload_n 1, 1) := by decide +kernel
theorem dX11_putFour_42 : decode cX11_putFour 42 = .ok (.iconst 3, 1) := by decide +kernel
theorem dX11_putFour_43 : decode cX11_putFour 43 = .ok (.iadd, 1) := by decide +kernel
theorem dX11_putFour_44 : decode cX11_putFour 44 = .ok (.iload_n 2, 1) := by decide +kernel
theorem dX11_putFour_45 : decode cX11_putFour 45 = .ok (.i2b, 1) := by decide +kernel
theorem dX11_putFour_46 : decode cX11_putFour 46 = .ok (.bastore, 1) := by decide +kernel
theorem dX11_putFour_47 : decode cX11_putFour 47 = .ok (.return_, 1) := by decide +kernel
theorem wX11_putFour {x : GX} {n0 sl0 : Nat} (X : Cx x cX11_putFour RX11 none n0 sl0 0 0) {out : Mm} (hE : Ends x n0 sl0 none out) (hn : xn x = 3) (fu : Nat)   (a0 : Option Nat) (a1 : Int32) (a2 : Int32)  (M : Mm) (h : fX11_putFour fu  a0 a1 a2 M = some out) : Gw x M 0 [(0, pR a0), (1, pI a1), (2, pI a2)] [] := by
  unfold fX11_putFour at h
  refine g_iload_n X (pc := 0) 1 rfl rfl dX11_putFour_0 ?_
  refine g_if_lt X (pc := 1) (tgt := 47) dX11_putFour_1 (by decide) (fun hc => ?_) (fun hc => ?_)
  · have h := (if_pos hc).symm.trans h
    obtain rfl := Option.some.inj h
    exact g_return X hE dX11_putFour_47
  · have h := (if_neg hc).symm.trans h
    refine g_iload_n X (pc := 4) 1 rfl rfl dX11_putFour_4 ?_
    refine g_aload_n X (pc := 5) 0 rfl rfl dX11_putFour_5 ?_
    obtain ⟨v1, ev1, h⟩ := bd h
    refine g_alen X (pc := 6) (k := 0) rfl (by decide) ev1 dX11_putFour_6 ?_
    refine g_iconst X (pc := 7) (v := 4) dX11_putFour_7 (by decide) ?_
    refine g_isub X (pc := 8) dX11_putFour_8 ?_
    refine g_icmp_gt X (pc := 9) (tgt := 47) dX11_putFour_9 (by decide) (fun hc => ?_) (fun hc => ?_)
    · have h := (if_pos hc).symm.trans h
      obtain rfl := Option.some.inj h
      exact g_return X hE dX11_putFour_47
    · have h := (if_neg hc).symm.trans h
      refine g_aload_n X (pc := 12) 0 rfl rfl dX11_putFour_12 ?_
      refine g_iload_n X (pc := 13) 1 rfl rfl dX11_putFour_13 ?_
      refine g_iload_n X (pc := 14) 2 rfl rfl dX11_putFour_14 ?_
      refine g_bipush X (pc := 15) (v := 24) dX11_putFour_15 (by decide) ?_
      refine g_ishr X (pc := 17) dX11_putFour_17 ?_
      refine g_i2b X (pc := 18) dX11_putFour_18 ?_
      obtain ⟨M2, eM2, h⟩ := bd h
      refine g_bastore X (pc := 19) eM2 dX11_putFour_19 ?_
      refine g_aload_n X (pc := 20) 0 rfl rfl dX11_putFour_20 ?_
      refine g_iload_n X (pc := 21) 1 rfl rfl dX11_putFour_21 ?_
      refine g_iconst X (pc := 22) (v := 1) dX11_putFour_22 (by decide) ?_
      refine g_iadd X (pc := 23) dX11_putFour_23 ?_
      refine g_iload_n X (pc := 24) 2 rfl rfl dX11_putFour_24 ?_
      refine g_bipush X (pc := 25) (v := 16) dX11_putFour_25 (by decide) ?_
      refine g_ishr X (pc := 27) dX11_putFour_27 ?_
      refine g_i2b X (pc := 28) dX11_putFour_28 ?_
      obtain ⟨M3, eM3, h⟩ := bd h
      refine g_bastore X (pc := 29) eM3 dX11_putFour_29 ?_
      refine g_aload_n X (pc := 30) 0 rfl rfl dX11_putFour_30 ?_
      refine g_iload_n X (pc := 31) 1 rfl rfl dX11_putFour_31 ?_
      refine g_iconst X (pc := 32) (v := 2) dX11_putFour_32 (by decide) ?_
      refine g_iadd X (pc := 33) dX11_putFour_33 ?_
      refine g_iload_n X (pc := 34) 2 rfl rfl dX11_putFour_34 ?_
      refine g_bipush X (pc := 35) (v := 8) dX11_putFour_35 (by decide) ?_
      refine g_ishr X (pc := 37) dX11_putFour_37 ?_
      refine g_i2b X (pc := 38) dX11_putFour_38 ?_
      obtain ⟨M4, eM4, h⟩ := bd h
      refine g_bastore X (pc := 39) eM4 dX11_putFour_39 ?_
      refine g_aload_n X (pc := 40) 0 rfl rfl dX11_putFour_40 ?_
      refine g_iload_n X (pc := 41) 1 rfl rfl dX11_putFour_41 ?_
      refine g_iconst X (pc := 42) (v := 3) dX11_putFour_42 (by decide) ?_
      refine g_iadd X (pc := 43) dX11_putFour_43 ?_
      refine g_iload_n X (pc := 44) 2 rfl rfl dX11_putFour_44 ?_
      refine g_i2b X (pc := 45) dX11_putFour_45 ?_
      obtain ⟨M5, eM5, h⟩ := bd h
      refine g_bastore X (pc := 46) eM5 dX11_putFour_46 ?_
      obtain rfl := Option.some.inj h
      exact g_return X hE dX11_putFour_47
theorem hyX11_putFour : yX11_putFour.cls ≠ "java/lang/invoke/MethodHandle" ∧ yX11_putFour.cls ≠ "java/lang/invoke/VarHandle" ∧ (parseMethodDescriptor yX11_putFour.desc).map (fun d => d.parameters.length) = some 3 := ⟨by decide +kernel, by decide +kernel, by decide +kernel⟩
theorem ctX11_putFour (l : Launch) (E : Nat → Nat) (D : va_G) (dA : Nat → ClassId) (lo : Nat) (H0 : Heap) (fu : Nat) (a0 : Option Nat) (a1 : Int32) (a2 : Int32) (M : Mm) (out : Mm) (h : fX11_putFour fu a0 a1 a2 M = some out) : Ct l E D dA lo H0 yX11_putFour cX11_putFour 3 none 0 0 [pR a0, pI a1, pI a2] M none out := by
  refine ct_of (by decide +kernel) (Nat.le_of_ble_eq_true rfl) ?_
  intro x hl he hd ha ho hh hn hin X hE
  exact wX11_putFour X hE hn fu a0 a1 a2 M h
/-! WebHost.putTwo([BII)V -/
def fX11_putTwo (fu : Nat)  (a0 : Option Nat) (a1 : Int32) (a2 : Int32)  (M : Mm) : Option (Mm) :=
    if a1 < 0 then (
    some M)
    else (
    (aL M 100 a0).bind fun v1 =>
    if (v1 - (2 : Int32)) < a1 then (
    some M)
    else (
    (pA M 100 a0 a1 (Int8.toInt32 (Int32.toInt8 (Int8.toInt32 (Int32.toInt8 (a2 >>> ((8 : Int32) &&& 31))))))).bind fun M2 =>
    (pA M2 100 a0 (a1 + (1 : Int32)) (Int8.toInt32 (Int32.toInt8 (Int8.toInt32 (Int32.toInt8 a2))))).bind fun M3 =>
    some M3))
theorem dX11_putTwo_0 : decode cX11_putTwo 0 = .ok (.iload_n 1, 1) := by decide +kernel
theorem dX11_putTwo_1 : decode cX11_putTwo 1 = .ok (.ifCond .lt 26, 3) := by decide +kernel
theorem dX11_putTwo_4 : decode cX11_putTwo 4 = .ok (.iload_n 1, 1) := by decide +kernel
theorem dX11_putTwo_5 : decode cX11_putTwo 5 = .ok (.aload_n 0, 1) := by decide +kernel
theorem dX11_putTwo_6 : decode cX11_putTwo 6 = .ok (.arraylength, 1) := by decide +kernel
theorem dX11_putTwo_7 : decode cX11_putTwo 7 = .ok (.iconst 2, 1) := by decide +kernel
theorem dX11_putTwo_8 : decode cX11_putTwo 8 = .ok (.isub, 1) := by decide +kernel
theorem dX11_putTwo_9 : decode cX11_putTwo 9 = .ok (.if_icmp .gt 18, 3) := by decide +kernel
theorem dX11_putTwo_12 : decode cX11_putTwo 12 = .ok (.aload_n 0, 1) := by decide +kernel
theorem dX11_putTwo_13 : decode cX11_putTwo 13 = .ok (.iload_n 1, 1) := by decide +kernel
theorem dX11_putTwo_14 : decode cX11_putTwo 14 = .ok (.iload_n 2, 1) := by decide +kernel
theorem dX11_putTwo_15 : decode cX11_putTwo 15 = .ok (.bipush 8, 2) := by decide +kernel
theorem dX11_putTwo_17 : decode cX11_putTwo 17 = .ok (.ishr, 1) := by decide +kernel
theorem dX11_putTwo_18 : decode cX11_putTwo 18 = .ok (.i2b, 1) := by decide +kernel
theorem dX11_putTwo_19 : decode cX11_putTwo 19 = .ok (.bastore, 1) := by decide +kernel
theorem dX11_putTwo_20 : decode cX11_putTwo 20 = .ok (.aload_n 0, 1) := by decide +kernel
theorem dX11_putTwo_21 : decode cX11_putTwo 21 = .ok (.iload_n 1, 1) := by decide +kernel
theorem dX11_putTwo_22 : decode cX11_putTwo 22 = .ok (.iconst 1, 1) := by decide +kernel
theorem dX11_putTwo_23 : decode cX11_putTwo 23 = .ok (.iadd, 1) := by decide +kernel
theorem dX11_putTwo_24 : decode cX11_putTwo 24 = .ok (.iload_n 2, 1) := by decide +kernel
theorem dX11_putTwo_25 : decode cX11_putTwo 25 = .ok (.i2b, 1) := by decide +kernel
theorem dX11_putTwo_26 : decode cX11_putTwo 26 = .ok (.bastore, 1) := by decide +kernel
theorem dX11_putTwo_27 : decode cX11_putTwo 27 = .ok (.return_, 1) := by decide +kernel
theorem wX11_putTwo {x : GX} {n0 sl0 : Nat} (X : Cx x cX11_putTwo RX11 none n0 sl0 0 0) {out : Mm} (hE : Ends x n0 sl0 none out) (hn : xn x = 3) (fu : Nat)   (a0 : Option Nat) (a1 : Int32) (a2 : Int32)  (M : Mm) (h : fX11_putTwo fu  a0 a1 a2 M = some out) : Gw x M 0 [(0, pR a0), (1, pI a1), (2, pI a2)] [] := by
  unfold fX11_putTwo at h
  refine g_iload_n X (pc := 0) 1 rfl rfl dX11_putTwo_0 ?_
  refine g_if_lt X (pc := 1) (tgt := 27) dX11_putTwo_1 (by decide) (fun hc => ?_) (fun hc => ?_)
  · have h := (if_pos hc).symm.trans h
    obtain rfl := Option.some.inj h
    exact g_return X hE dX11_putTwo_27
  · have h := (if_neg hc).symm.trans h
    refine g_iload_n X (pc := 4) 1 rfl rfl dX11_putTwo_4 ?_
    refine g_aload_n X (pc := 5) 0 rfl rfl dX11_putTwo_5 ?_
    obtain ⟨v1, ev1, h⟩ := bd h
    refine g_alen X (pc := 6) (k := 0) rfl (by decide) ev1 dX11_putTwo_6 ?_
    refine g_iconst X (pc := 7) (v := 2) dX11_putTwo_7 (by decide) ?_
    refine g_isub X (pc := 8) dX11_putTwo_8 ?_
    refine g_icmp_gt X (pc := 9) (tgt := 27) dX11_putTwo_9 (by decide) (fun hc => ?_) (fun hc => ?_)
    · have h := (if_pos hc).symm.trans h
      obtain rfl := Option.some.inj h
      exact g_return X hE dX11_putTwo_27
    · have h := (if_neg hc).symm.trans h
      refine g_aload_n X (pc := 12) 0 rfl rfl dX11_putTwo_12 ?_
      refine g_iload_n X (pc := 13) 1 rfl rfl dX11_putTwo_13 ?_
      refine g_iload_n X (pc := 14) 2 rfl rfl dX11_putTwo_14 ?_
      refine g_bipush X (pc := 15) (v := 8) dX11_putTwo_15 (by decide) ?_
      refine g_ishr X (pc := 17) dX11_putTwo_17 ?_
      refine g_i2b X (pc := 18) dX11_putTwo_18 ?_
      obtain ⟨M2, eM2, h⟩ := bd h
      refine g_bastore X (pc := 19) eM2 dX11_putTwo_19 ?_
      refine g_aload_n X (pc := 20) 0 rfl rfl dX11_putTwo_20 ?_
      refine g_iload_n X (pc := 21) 1 rfl rfl dX11_putTwo_21 ?_
      refine g_iconst X (pc := 22) (v := 1) dX11_putTwo_22 (by decide) ?_
      refine g_iadd X (pc := 23) dX11_putTwo_23 ?_
      refine g_iload_n X (pc := 24) 2 rfl rfl dX11_putTwo_24 ?_
      refine g_i2b X (pc := 25) dX11_putTwo_25 ?_
      obtain ⟨M3, eM3, h⟩ := bd h
      refine g_bastore X (pc := 26) eM3 dX11_putTwo_26 ?_
      obtain rfl := Option.some.inj h
      exact g_return X hE dX11_putTwo_27
theorem hyX11_putTwo : yX11_putTwo.cls ≠ "java/lang/invoke/MethodHandle" ∧ yX11_putTwo.cls ≠ "java/lang/invoke/VarHandle" ∧ (parseMethodDescriptor yX11_putTwo.desc).map (fun d => d.parameters.length) = some 3 := ⟨by decide +kernel, by decide +kernel, by decide +kernel⟩
theorem ctX11_putTwo (l : Launch) (E : Nat → Nat) (D : va_G) (dA : Nat → ClassId) (lo : Nat) (H0 : Heap) (fu : Nat) (a0 : Option Nat) (a1 : Int32) (a2 : Int32) (M : Mm) (out : Mm) (h : fX11_putTwo fu a0 a1 a2 M = some out) : Ct l E D dA lo H0 yX11_putTwo cX11_putTwo 3 none 0 0 [pR a0, pI a1, pI a2] M none out := by
  refine ct_of (by decide +kernel) (Nat.le_of_ble_eq_true rfl) ?_
  intro x hl he hd ha ho hh hn hin X hE
  exact wX11_putTwo X hE hn fu a0 a1 a2 M h
/-! WebHost$Link.fillHeader(III)V -/
def fX4_fillHeader (fu : Nat)  (a0 : Nat) (a1 : Int32) (a2 : Int32) (a3 : Int32)  (M : Mm) : Option (Mm) :=
    (gR M 4 256 (some a0)).bind fun v1 =>
    (fX11_putTwo fu  v1 (14 : Int32) (17664 : Int32) M).bind fun M2 =>
    (gR M2 4 256 (some a0)).bind fun v3 =>
    (fX11_putTwo fu  v3 (16 : Int32) ((20 : Int32) + a3) M2).bind fun M4 =>
    (gR M4 4 256 (some a0)).bind fun v5 =>
    (gI M4 4 264 (some a0)).bind fun v6 =>
    (fX11_putTwo fu  v5 (18 : Int32) v6 M4).bind fun M7 =>
    (gR M7 4 256 (some a0)).bind fun v8 =>
    (fX11_putTwo fu  v8 (20 : Int32) (16384 : Int32) M7).bind fun M9 =>
    (gR M9 4 256 (some a0)).bind fun v10 =>
    (fX11_putTwo fu  v10 (22 : Int32) ((16384 : Int32) ||| a2) M9).bind fun M11 =>
    (gR M11 4 256 (some a0)).bind fun v12 =>
    (fX11_putTwo fu  v12 (24 : Int32) (0 : Int32) M11).bind fun M13 =>
    (gR M13 4 256 (some a0)).bind fun v14 =>
    (gI M13 4 257 (some a0)).bind fun v15 =>
    (fX11_putFour fu  v14 (26 : Int32) v15 M13).bind fun M16 =>
    (gR M16 4 256 (some a0)).bind fun v17 =>
    (fX11_putFour fu  v17 (30 : Int32) a1 M16).bind fun M18 =>
    (gR M18 4 256 (some a0)).bind fun v19 =>
    (gR M18 4 256 (some a0)).bind fun v20 =>
    b2 (fX11_added fu  v20 (14 : Int32) (20 : Int32) (0 : Int32) M18) fun v22 M21 =>
    (fX11_putTwo fu  v19 (24 : Int32) (v22 ^^^ (-1 : Int32)) M21).bind fun M23 =>
    (gI M23 4 264 (some a0)).bind fun v24 =>
    (pF M23 4 264 (some a0) ((v24 + (1 : Int32)) &&& (65535 : Int32))).bind fun M25 =>
    some M25
theorem dX4_fillHeader_0 : decode cX4_fillHeader 0 = .ok (.aload_n 0, 1) := by decide +kernel
theorem dX4_fillHeader_1 : decode cX4_fillHeader 1 = .ok (.getfield 15, 3) := by decide +kernel
theorem dX4_fillHeader_4 : decode cX4_fillHeader 4 = .ok (.bipush 14, 2) := by decide +kernel
theorem dX4_fillHeader_6 : decode cX4_fillHeader 6 = .ok (.sipush 17664, 3) := by decide +kernel
theorem dX4_fillHeader_9 : decode cX4_fillHeader 9 = .ok (.invokestatic 128, 3) := by decide +kernel
theorem dX4_fillHeader_12 : decode cX4_fillHeader 12 = .ok (.aload_n 0, 1) := by decide +kernel
theorem dX4_fillHeader_13 : decode cX4_fillHeader 13 = .ok (.getfield 15, 3) := by decide +kernel
theorem dX4_fillHeader_16 : decode cX4_fillHeader 16 = .ok (.bipush 16, 2) := by decide +kernel
theorem dX4_fillHeader_18 : decode cX4_fillHeader 18 = .ok (.bipush 20, 2) := by decide +kernel
theorem dX4_fillHeader_20 : decode cX4_fillHeader 20 = .ok (.iload_n 3, 1) := by decide +kernel
theorem dX4_fillHeader_21 : decode cX4_fillHeader 21 = .ok (.iadd, 1) := by decide +kernel
theorem dX4_fillHeader_22 : decode cX4_fillHeader 22 = .ok (.invokestatic 128, 3) := by decide +kernel
theorem dX4_fillHeader_25 : decode cX4_fillHeader 25 = .ok (.aload_n 0, 1) := by decide +kernel
theorem dX4_fillHeader_26 : decode cX4_fillHeader 26 = .ok (.getfield 15, 3) := by decide +kernel
theorem dX4_fillHeader_29 : decode cX4_fillHeader 29 = .ok (.bipush 18, 2) := by decide +kernel
theorem dX4_fillHeader_31 : decode cX4_fillHeader 31 = .ok (.aload_n 0, 1) := by decide +kernel
theorem dX4_fillHeader_32 : decode cX4_fillHeader 32 = .ok (.getfield 54, 3) := by decide +kernel
theorem dX4_fillHeader_35 : decode cX4_fillHeader 35 = .ok (.invokestatic 128, 3) := by decide +kernel
theorem dX4_fillHeader_38 : decode cX4_fillHeader 38 = .ok (.aload_n 0, 1) := by decide +kernel
theorem dX4_fillHeader_39 : decode cX4_fillHeader 39 = .ok (.getfield 15, 3) := by decide +kernel
theorem dX4_fillHeader_42 : decode cX4_fillHeader 42 = .ok (.bipush 20, 2) := by decide +kernel
theorem dX4_fillHeader_44 : decode cX4_fillHeader 44 = .ok (.sipush 16384, 3) := by decide +kernel
theorem dX4_fillHeader_47 : decode cX4_fillHeader 47 = .ok (.invokestatic 128, 3) := by decide +kernel
theorem dX4_fillHeader_50 : decode cX4_fillHeader 50 = .ok (.aload_n 0, 1) := by decide +kernel
theorem dX4_fillHeader_51 : decode cX4_fillHeader 51 = .ok (.getfield 15, 3) := by decide +kernel
theorem dX4_fillHeader_54 : decode cX4_fillHeader 54 = .ok (.bipush 22, 2) := by decide +kernel
theorem dX4_fillHeader_56 : decode cX4_fillHeader 56 = .ok (.sipush 16384, 3) := by decide +kernel
theorem dX4_fillHeader_59 : decode cX4_fillHeader 59 = .ok (.iload_n 2, 1) := by decide +kernel
theorem dX4_fillHeader_60 : decode cX4_fillHeader 60 = .ok (.ior, 1) := by decide +kernel
theorem dX4_fillHeader_61 : decode cX4_fillHeader 61 = .ok (.invokestatic 128, 3) := by decide +kernel
theorem dX4_fillHeader_64 : decode cX4_fillHeader 64 = .ok (.aload_n 0, 1) := by decide +kernel
theorem dX4_fillHeader_65 : decode cX4_fillHeader 65 = .ok (.getfield 15, 3) := by decide +kernel
theorem dX4_fillHeader_68 : decode cX4_fillHeader 68 = .ok (.bipush 24, 2) := by decide +kernel
theorem dX4_fillHeader_70 : decode cX4_fillHeader 70 = .ok (.iconst 0, 1) := by decide +kernel
theorem dX4_fillHeader_71 : decode cX4_fillHeader 71 = .ok (.invokestatic 128, 3) := by decide +kernel
theorem dX4_fillHeader_74 : decode cX4_fillHeader 74 = .ok (.aload_n 0, 1) := by decide +kernel
theorem dX4_fillHeader_75 : decode cX4_fillHeader 75 = .ok (.getfield 15, 3) := by decide +kernel
theorem dX4_fillHeader_78 : decode cX4_fillHeader 78 = .ok (.bipush 26, 2) := by decide +kernel
theorem dX4_fillHeader_80 : decode cX4_fillHeader 80 = .ok (.aload_n 0, 1) := by decide +kernel
theorem dX4_fillHeader_81 : decode cX4_fillHeader 81 = .ok (.getfield 38, 3) := by decide +kernel
theorem dX4_fillHeader_84 : decode cX4_fillHeader 84 = .ok (.invokestatic 132, 3) := by decide +kernel
theorem dX4_fillHeader_87 : decode cX4_fillHeader 87 = .ok (.aload_n 0, 1) := by decide +kernel
theorem dX4_fillHeader_88 : decode cX4_fillHeader 88 = .ok (.getfield 15, 3) := by decide +kernel
theorem dX4_fillHeader_91 : decode cX4_fillHeader 91 = .ok (.bipush 30, 2) := by decide +kernel
theorem dX4_fillHeader_93 : decode cX4_fillHeader 93 = .ok (.iload_n 1, 1) := by decide +kernel
theorem dX4_fillHeader_94 : decode cX4_fillHeader 94 = .ok (.invokestatic 132, 3) := by decide +kernel
theorem dX4_fillHeader_97 : decode cX4_fillHeader 97 = .ok (.aload_n 0, 1) := by decide +kernel
theorem dX4_fillHeader_98 : decode cX4_fillHeader 98 = .ok (.getfield 15, 3) := by decide +kernel
theorem dX4_fillHeader_101 : decode cX4_fillHeader 101 = .ok (.bipush 24, 2) := by decide +kernel
theorem dX4_fillHeader_103 : decode cX4_fillHeader 103 = .ok (.aload_n 0, 1) := by decide +kernel
theorem dX4_fillHeader_104 : decode cX4_fillHeader 104 = .ok (.getfield 15, 3) := by decide +kernel
theorem dX4_fillHeader_107 : decode cX4_fillHeader 107 = .ok (.bipush 14, 2) := by decide +kernel
theorem dX4_fillHeader_109 : decode cX4_fillHeader 109 = .ok (.bipush 20, 2) := by decide +kernel
theorem dX4_fillHeader_111 : decode cX4_fillHeader 111 = .ok (.iconst 0, 1) := by decide +kernel
theorem dX4_fillHeader_112 : decode cX4_fillHeader 112 = .ok (.invokestatic 135, 3) := by decide +kernel
theorem dX4_fillHeader_115 : decode cX4_fillHeader 115 = .ok (.iconst (-1), 1) := by decide +kernel
theorem dX4_fillHeader_116 : decode cX4_fillHeader 116 = .ok (.ixor, 1) := by decide +kernel
theorem dX4_fillHeader_117 : decode cX4_fillHeader 117 = .ok (.invokestatic 128, 3) := by decide +kernel
theorem dX4_fillHeader_120 : decode cX4_fillHeader 120 = .ok (.aload_n 0, 1) := by decide +kernel
theorem dX4_fillHeader_121 : decode cX4_fillHeader 121 = .ok (.aload_n 0, 1) := by decide +kernel
theorem dX4_fillHeader_122 : decode cX4_fillHeader 122 = .ok (.getfield 54, 3) := by decide +kernel
theorem dX4_fillHeader_125 : decode cX4_fillHeader 125 = .ok (.iconst 1, 1) := by decide +kernel
theorem dX4_fillHeader_126 : decode cX4_fillHeader 126 = .ok (.iadd, 1) := by decide +kernel
theorem dX4_fillHeader_127 : decode cX4_fillHeader 127 = .ok (.ldc 139, 2) := by decide +kernel
theorem dX4_fillHeader_129 : decode cX4_fillHeader 129 = .ok (.iand, 1) := by decide +kernel
theorem dX4_fillHeader_130 : decode cX4_fillHeader 130 = .ok (.putfield 54, 3) := by decide +kernel
theorem dX4_fillHeader_133 : decode cX4_fillHeader 133 = .ok (.return_, 1) := by decide +kernel
theorem wX4_fillHeader {x : GX} {n0 sl0 : Nat} (X : Cx x cX4_fillHeader RX4 none n0 sl0 2 39) {out : Mm} (hE : Ends x n0 sl0 none out) (hn : xn x = 4) (fu : Nat)   (a0 : Nat) (a1 : Int32) (a2 : Int32) (a3 : Int32)  (M : Mm) (h : fX4_fillHeader fu  a0 a1 a2 a3 M = some out) : Gw x M 0 [(0, pR (some a0)), (1, pI a1), (2, pI a2), (3, pI a3)] [] := by
  unfold fX4_fillHeader at h
  refine g_aload_n X (pc := 0) 0 rfl rfl dX4_fillHeader_0 ?_
  obtain ⟨v1, ev1, h⟩ := bd h
  refine g_getR X (pc := 1) fk_4_0 rfl rfl ev1 tb_97 dX4_fillHeader_1 ?_
  refine g_bipush X (pc := 4) (v := 14) dX4_fillHeader_4 (by decide) ?_
  refine g_sipush X (pc := 6) (v := 17664) dX4_fillHeader_6 (by decide) ?_
  obtain ⟨M2, eM2, h⟩ := bd h
  refine g_callSN X (pc := 9) (M' := M2) (ro := none) (as := [pR v1, pI (14 : Int32), pI (17664 : Int32)]) (as' := [pI (17664 : Int32), pI (14 : Int32), pR v1]) (st := []) (ctX11_putTwo _ _ _ _ _ _ fu  v1 (14 : Int32) (17664 : Int32) M _ eM2) tb_525 (List.mem_of_getElem? (i := 4) rfl) tb_524 tb_1 hyX11_putTwo rfl rfl ⟨by decide, by decide⟩ (Nat.le_of_ble_eq_true rfl) dX4_fillHeader_9 ?_
  refine g_aload_n X (pc := 12) 0 rfl rfl dX4_fillHeader_12 ?_
  obtain ⟨v3, ev3, h⟩ := bd h
  refine g_getR X (pc := 13) fk_4_0 rfl rfl ev3 tb_97 dX4_fillHeader_13 ?_
  refine g_bipush X (pc := 16) (v := 16) dX4_fillHeader_16 (by decide) ?_
  refine g_bipush X (pc := 18) (v := 20) dX4_fillHeader_18 (by decide) ?_
  refine g_iload_n X (pc := 20) 3 rfl rfl dX4_fillHeader_20 ?_
  refine g_iadd X (pc := 21) dX4_fillHeader_21 ?_
  obtain ⟨M4, eM4, h⟩ := bd h
  refine g_callSN X (pc := 22) (M' := M4) (ro := none) (as := [pR v3, pI (16 : Int32), pI ((20 : Int32) + a3)]) (as' := [pI ((20 : Int32) + a3), pI (16 : Int32), pR v3]) (st := []) (ctX11_putTwo _ _ _ _ _ _ fu  v3 (16 : Int32) ((20 : Int32) + a3) M2 _ eM4) tb_525 (List.mem_of_getElem? (i := 4) rfl) tb_524 tb_1 hyX11_putTwo rfl rfl ⟨by decide, by decide⟩ (Nat.le_of_ble_eq_true rfl) dX4_fillHeader_22 ?_
  refine g_aload_n X (pc := 25) 0 rfl rfl dX4_fillHeader_25 ?_
  obtain ⟨v5, ev5, h⟩ := bd h
  refine g_getR X (pc := 26) fk_4_0 rfl rfl ev5 tb_97 dX4_fillHeader_26 ?_
  refine g_bipush X (pc := 29) (v := 18) dX4_fillHeader_29 (by decide) ?_
  refine g_aload_n X (pc := 31) 0 rfl rfl dX4_fillHeader_31 ?_
  obtain ⟨v6, ev6, h⟩ := bd h
  refine g_getI X (pc := 32) fk_4_8 rfl rfl ev6 tb_112 dX4_fillHeader_32 ?_
  obtain ⟨M7, eM7, h⟩ := bd h
  refine g_callSN X (pc := 35) (M' := M7) (ro := none) (as := [pR v5, pI (18 : Int32), pI v6]) (as' := [pI v6, pI (18 : Int32), pR v5]) (st := []) (ctX11_putTwo _ _ _ _ _ _ fu  v5 (18 : Int32) v6 M4 _ eM7) tb_525 (List.mem_of_getElem? (i := 4) rfl) tb_524 tb_1 hyX11_putTwo rfl rfl ⟨by decide, by decide⟩ (Nat.le_of_ble_eq_true rfl) dX4_fillHeader_35 ?_
  refine g_aload_n X (pc := 38) 0 rfl rfl dX4_fillHeader_38 ?_
  obtain ⟨v8, ev8, h⟩ := bd h
  refine g_getR X (pc := 39) fk_4_0 rfl rfl ev8 tb_97 dX4_fillHeader_39 ?_
  refine g_bipush X (pc := 42) (v := 20) dX4_fillHeader_42 (by decide) ?_
  refine g_sipush X (pc := 44) (v := 16384) dX4_fillHeader_44 (by decide) ?_
  obtain ⟨M9, eM9, h⟩ := bd h
  refine g_callSN X (pc := 47) (M' := M9) (ro := none) (as := [pR v8, pI (20 : Int32), pI (16384 : Int32)]) (as' := [pI (16384 : Int32), pI (20 : Int32), pR v8]) (st := []) (ctX11_putTwo _ _ _ _ _ _ fu  v8 (20 : Int32) (16384 : Int32) M7 _ eM9) tb_525 (List.mem_of_getElem? (i := 4) rfl) tb_524 tb_1 hyX11_putTwo rfl rfl ⟨by decide, by decide⟩ (Nat.le_of_ble_eq_true rfl) dX4_fillHeader_47 ?_
  refine g_aload_n X (pc := 50) 0 rfl rfl dX4_fillHeader_50 ?_
  obtain ⟨v10, ev10, h⟩ := bd h
  refine g_getR X (pc := 51) fk_4_0 rfl rfl ev10 tb_97 dX4_fillHeader_51 ?_
  refine g_bipush X (pc := 54) (v := 22) dX4_fillHeader_54 (by decide) ?_
  refine g_sipush X (pc := 56) (v := 16384) dX4_fillHeader_56 (by decide) ?_
  refine g_iload_n X (pc := 59) 2 rfl rfl dX4_fillHeader_59 ?_
  refine g_ior X (pc := 60) dX4_fillHeader_60 ?_
  obtain ⟨M11, eM11, h⟩ := bd h
  refine g_callSN X (pc := 61) (M' := M11) (ro := none) (as := [pR v10, pI (22 : Int32), pI ((16384 : Int32) ||| a2)]) (as' := [pI ((16384 : Int32) ||| a2), pI (22 : Int32), pR v10]) (st := []) (ctX11_putTwo _ _ _ _ _ _ fu  v10 (22 : Int32) ((16384 : Int32) ||| a2) M9 _ eM11) tb_525 (List.mem_of_getElem? (i := 4) rfl) tb_524 tb_1 hyX11_putTwo rfl rfl ⟨by decide, by decide⟩ (Nat.le_of_ble_eq_true rfl) dX4_fillHeader_61 ?_
  refine g_aload_n X (pc := 64) 0 rfl rfl dX4_fillHeader_64 ?_
  obtain ⟨v12, ev12, h⟩ := bd h
  refine g_getR X (pc := 65) fk_4_0 rfl rfl ev12 tb_97 dX4_fillHeader_65 ?_
  refine g_bipush X (pc := 68) (v := 24) dX4_fillHeader_68 (by decide) ?_
  refine g_iconst X (pc := 70) (v := 0) dX4_fillHeader_70 (by decide) ?_
  obtain ⟨M13, eM13, h⟩ := bd h
  refine g_callSN X (pc := 71) (M' := M13) (ro := none) (as := [pR v12, pI (24 : Int32), pI (0 : Int32)]) (as' := [pI (0 : Int32), pI (24 : Int32), pR v12]) (st := []) (ctX11_putTwo _ _ _ _ _ _ fu  v12 (24 : Int32) (0 : Int32) M11 _ eM13) tb_525 (List.mem_of_getElem? (i := 4) rfl) tb_524 tb_1 hyX11_putTwo rfl rfl ⟨by decide, by decide⟩ (Nat.le_of_ble_eq_true rfl) dX4_fillHeader_71 ?_
  refine g_aload_n X (pc := 74) 0 rfl rfl dX4_fillHeader_74 ?_
  obtain ⟨v14, ev14, h⟩ := bd h
  refine g_getR X (pc := 75) fk_4_0 rfl rfl ev14 tb_97 dX4_fillHeader_75 ?_
  refine g_bipush X (pc := 78) (v := 26) dX4_fillHeader_78 (by decide) ?_
  refine g_aload_n X (pc := 80) 0 rfl rfl dX4_fillHeader_80 ?_
  obtain ⟨v15, ev15, h⟩ := bd h
  refine g_getI X (pc := 81) fk_4_1 rfl rfl ev15 tb_100 dX4_fillHeader_81 ?_
  obtain ⟨M16, eM16, h⟩ := bd h
  refine g_callSN X (pc := 84) (M' := M16) (ro := none) (as := [pR v14, pI (26 : Int32), pI v15]) (as' := [pI v15, pI (26 : Int32), pR v14]) (st := []) (ctX11_putFour _ _ _ _ _ _ fu  v14 (26 : Int32) v15 M13 _ eM16) tb_366 (List.mem_of_getElem? (i := 3) rfl) tb_365 tb_1 hyX11_putFour rfl rfl ⟨by decide, by decide⟩ (Nat.le_of_ble_eq_true rfl) dX4_fillHeader_84 ?_
  refine g_aload_n X (pc := 87) 0 rfl rfl dX4_fillHeader_87 ?_
  obtain ⟨v17, ev17, h⟩ := bd h
  refine g_getR X (pc := 88) fk_4_0 rfl rfl ev17 tb_97 dX4_fillHeader_88 ?_
  refine g_bipush X (pc := 91) (v := 30) dX4_fillHeader_91 (by decide) ?_
  refine g_iload_n X (pc := 93) 1 rfl rfl dX4_fillHeader_93 ?_
  obtain ⟨M18, eM18, h⟩ := bd h
  refine g_callSN X (pc := 94) (M' := M18) (ro := none) (as := [pR v17, pI (30 : Int32), pI a1]) (as' := [pI a1, pI (30 : Int32), pR v17]) (st := []) (ctX11_putFour _ _ _ _ _ _ fu  v17 (30 : Int32) a1 M16 _ eM18) tb_366 (List.mem_of_getElem? (i := 3) rfl) tb_365 tb_1 hyX11_putFour rfl rfl ⟨by decide, by decide⟩ (Nat.le_of_ble_eq_true rfl) dX4_fillHeader_94 ?_
  refine g_aload_n X (pc := 97) 0 rfl rfl dX4_fillHeader_97 ?_
  obtain ⟨v19, ev19, h⟩ := bd h
  refine g_getR X (pc := 98) fk_4_0 rfl rfl ev19 tb_97 dX4_fillHeader_98 ?_
  refine g_bipush X (pc := 101) (v := 24) dX4_fillHeader_101 (by decide) ?_
  refine g_aload_n X (pc := 103) 0 rfl rfl dX4_fillHeader_103 ?_
  obtain ⟨v20, ev20, h⟩ := bd h
  refine g_getR X (pc := 104) fk_4_0 rfl rfl ev20 tb_97 dX4_fillHeader_104 ?_
  refine g_bipush X (pc := 107) (v := 14) dX4_fillHeader_107 (by decide) ?_
  refine g_bipush X (pc := 109) (v := 20) dX4_fillHeader_109 (by decide) ?_
  refine g_iconst X (pc := 111) (v := 0) dX4_fillHeader_111 (by decide) ?_
  obtain ⟨v22, M21, eM21, h⟩ := b2d h
  refine g_callSN X (pc := 112) (M' := M21) (ro := some (pI v22)) (as := [pR v20, pI (14 : Int32), pI (20 : Int32), pI (0 : Int32)]) (as' := [pI (0 : Int32), pI (20 : Int32), pI (14 : Int32), pR v20]) (st := [pI (24 : Int32), pR v19]) (ctX11_added _ _ _ _ _ _ fu  v20 (14 : Int32) (20 : Int32) (0 : Int32) M18 _ eM21) tb_622 (List.mem_of_getElem? (i := 9) rfl) tb_621 tb_1 hyX11_added rfl rfl ⟨by decide, by decide⟩ (Nat.le_of_ble_eq_true rfl) dX4_fillHeader_112 ?_
  refine g_iconst X (pc := 115) (v := (-1)) dX4_fillHeader_115 (by decide) ?_
  refine g_ixor X (pc := 116) dX4_fillHeader_116 ?_
  obtain ⟨M23, eM23, h⟩ := bd h
  refine g_callSN X (pc := 117) (M' := M23) (ro := none) (as := [pR v19, pI (24 : Int32), pI (v22 ^^^ (-1 : Int32))]) (as' := [pI (v22 ^^^ (-1 : Int32)), pI (24 : Int32), pR v19]) (st := []) (ctX11_putTwo _ _ _ _ _ _ fu  v19 (24 : Int32) (v22 ^^^ (-1 : Int32)) M21 _ eM23) tb_525 (List.mem_of_getElem? (i := 4) rfl) tb_524 tb_1 hyX11_putTwo rfl rfl ⟨by decide, by decide⟩ (Nat.le_of_ble_eq_true rfl) dX4_fillHeader_117 ?_
  refine g_aload_n X (pc := 120) 0 rfl rfl dX4_fillHeader_120 ?_
  refine g_aload_n X (pc := 121) 0 rfl rfl dX4_fillHeader_121 ?_
  obtain ⟨v24, ev24, h⟩ := bd h
  refine g_getI X (pc := 122) fk_4_8 rfl rfl ev24 tb_112 dX4_fillHeader_122 ?_
  refine g_iconst X (pc := 125) (v := 1) dX4_fillHeader_125 (by decide) ?_
  refine g_iadd X (pc := 126) dX4_fillHeader_126 ?_
  refine g_ldc X (pc := 127) tb_526 dX4_fillHeader_127 ?_
  refine g_iand X (pc := 129) dX4_fillHeader_129 ?_
  obtain ⟨M25, eM25, h⟩ := bd h
  refine g_putI X (pc := 130) fk_4_8 rfl rfl rfl eM25 tb_112 (Or.inl rfl) dX4_fillHeader_130 ?_
  obtain rfl := Option.some.inj h
  exact g_return X hE dX4_fillHeader_133
theorem hyX4_fillHeader : yX4_fillHeader.cls ≠ "java/lang/invoke/MethodHandle" ∧ yX4_fillHeader.cls ≠ "java/lang/invoke/VarHandle" ∧ (parseMethodDescriptor yX4_fillHeader.desc).map (fun d => d.parameters.length) = some 3 := ⟨by decide +kernel, by decide +kernel, by decide +kernel⟩
theorem ctX4_fillHeader (l : Launch) (E : Nat → Nat) (D : va_G) (dA : Nat → ClassId) (lo : Nat) (H0 : Heap) (fu : Nat) (a0 : Nat) (a1 : Int32) (a2 : Int32) (a3 : Int32) (M : Mm) (out : Mm) (h : fX4_fillHeader fu a0 a1 a2 a3 M = some out) : Ct l E D dA lo H0 yX4_fillHeader cX4_fillHeader 4 none 2 39 [pR (some a0), pI a1, pI a2, pI a3] M none out := by
  refine ct_of (by decide +kernel) (Nat.le_of_ble_eq_true rfl) ?_
  intro x hl he hd ha ho hh hn hin X hE
  exact wX4_fillHeader X hE hn fu a0 a1 a2 a3 M h
