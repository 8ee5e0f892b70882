/-! ===== walks of methods, printed by a program of ours ===== -/
/-! WebHost$Pace.endTiming(II)V -/
def fX5_endTiming_L94 (fu : Nat)  (a0 : Nat)  (M : Mm) : Option (Mm) :=
    (gI M 5 332 (some a0)).bind fun v1 =>
    (gI M 5 333 (some a0)).bind fun v2 =>
    (pF M 5 323 (some a0) (jmax (1000 : Int32) (jmin (60000 : Int32) (v1 + (jmax (10 : Int32) ((4 : Int32) * v2)))))).bind fun M3 =>
    some M3
def fX5_endTiming (fu : Nat)  (a0 : Nat) (a1 : Int32) (a2 : Int32)  (M : Mm) : Option (Mm) :=
    (gI M 5 328 (some a0)).bind fun v1 =>
    if v1 = 0 then (
    some M)
    else (
    (gI M 5 329 (some a0)).bind fun v2 =>
    if 0 < (a1 - v2) then (
    (pZ M 5 328 (some a0) (0 : Int32)).bind fun M3 =>
    (gI M3 5 330 (some a0)).bind fun v4 =>
    (gI M3 5 331 (some a0)).bind fun v5 =>
    if v5 = 0 then (
    (pZ M3 5 331 (some a0) (1 : Int32)).bind fun M6 =>
    (pF M6 5 332 (some a0) (a2 - v4)).bind fun M7 =>
    (pF M7 5 333 (some a0) ((a2 - v4) / (2 : Int32))).bind fun M8 =>
    fX5_endTiming_L94 fu  a0 M8)
    else (
    (gI M3 5 333 (some a0)).bind fun v9 =>
    (gI M3 5 332 (some a0)).bind fun v10 =>
    (pF M3 5 333 (some a0) ((((3 : Int32) * v9) + (jabs (v10 - (a2 - v4)))) / (4 : Int32))).bind fun M11 =>
    (gI M11 5 332 (some a0)).bind fun v12 =>
    (pF M11 5 332 (some a0) ((((7 : Int32) * v12) + (a2 - v4)) / (8 : Int32))).bind fun M13 =>
    fX5_endTiming_L94 fu  a0 M13))
    else (
    some M))
theorem dX5_endTiming_0 : decode cX5_endTiming 0 = .ok (.aload_n 0, 1) := by decide +kernel
theorem dX5_endTiming_1 : decode cX5_endTiming 1 = .ok (.getfield 39, 3) := by decide +kernel
theorem dX5_endTiming_4 : decode cX5_endTiming 4 = .ok (.ifCond .eq 12, 3) := by decide +kernel
theorem dX5_endTiming_7 : decode cX5_endTiming 7 = .ok (.iload_n 1, 1) := by decide +kernel
theorem dX5_endTiming_8 : decode cX5_endTiming 8 = .ok (.aload_n 0, 1) := by decide +kernel
theorem dX5_endTiming_9 : decode cX5_endTiming 9 = .ok (.getfield 51, 3) := by decide +kernel
theorem dX5_endTiming_12 : decode cX5_endTiming 12 = .ok (.isub, 1) := by decide +kernel
theorem dX5_endTiming_13 : decode cX5_endTiming 13 = .ok (.ifCond .gt 4, 3) := by decide +kernel
theorem dX5_endTiming_16 : decode cX5_endTiming 16 = .ok (.return_, 1) := by decide +kernel
theorem dX5_endTiming_17 : decode cX5_endTiming 17 = .ok (.aload_n 0, 1) := by decide +kernel
theorem dX5_endTiming_18 : decode cX5_endTiming 18 = .ok (.iconst 0, 1) := by decide +kernel
theorem dX5_endTiming_19 : decode cX5_endTiming 19 = .ok (.putfield 39, 3) := by decide +kernel
theorem dX5_endTiming_22 : decode cX5_endTiming 22 = .ok (.iload_n 2, 1) := by decide +kernel
theorem dX5_endTiming_23 : decode cX5_endTiming 23 = .ok (.aload_n 0, 1) := by decide +kernel
theorem dX5_endTiming_24 : decode cX5_endTiming 24 = .ok (.getfield 54, 3) := by decide +kernel
theorem dX5_endTiming_27 : decode cX5_endTiming 27 = .ok (.isub, 1) := by decide +kernel
theorem dX5_endTiming_28 : decode cX5_endTiming 28 = .ok (.istore_n 3, 1) := by decide +kernel
theorem dX5_endTiming_29 : decode cX5_endTiming 29 = .ok (.aload_n 0, 1) := by decide +kernel
theorem dX5_endTiming_30 : decode cX5_endTiming 30 = .ok (.getfield 42, 3) := by decide +kernel
theorem dX5_endTiming_33 : decode cX5_endTiming 33 = .ok (.ifCond .eq 44, 3) := by decide +kernel
theorem dX5_endTiming_36 : decode cX5_endTiming 36 = .ok (.aload_n 0, 1) := by decide +kernel
theorem dX5_endTiming_37 : decode cX5_endTiming 37 = .ok (.iconst 3, 1) := by decide +kernel
theorem dX5_endTiming_38 : decode cX5_endTiming 38 = .ok (.aload_n 0, 1) := by decide +kernel
theorem dX5_endTiming_39 : decode cX5_endTiming 39 = .ok (.getfield 48, 3) := by decide +kernel
theorem dX5_endTiming_42 : decode cX5_endTiming 42 = .ok (.imul, 1) := by decide +kernel
theorem dX5_endTiming_43 : decode cX5_endTiming 43 = .ok (.aload_n 0, 1) := by decide +kernel
theorem dX5_endTiming_44 : decode cX5_endTiming 44 = .ok (.getfield 45, 3) := by decide +kernel
theorem dX5_endTiming_47 : decode cX5_endTiming 47 = .ok (.iload_n 3, 1) := by decide +kernel
theorem dX5_endTiming_48 : decode cX5_endTiming 48 = .ok (.isub, 1) := by decide +kernel
theorem dX5_endTiming_49 : decode cX5_endTiming 49 = .ok (.invokestatic 57, 3) := by decide +kernel
theorem dX5_endTiming_52 : decode cX5_endTiming 52 = .ok (.iadd, 1) := by decide +kernel
theorem dX5_endTiming_53 : decode cX5_endTiming 53 = .ok (.iconst 4, 1) := by decide +kernel
theorem dX5_endTiming_54 : decode cX5_endTiming 54 = .ok (.idiv, 1) := by decide +kernel
theorem dX5_endTiming_55 : decode cX5_endTiming 55 = .ok (.putfield 48, 3) := by decide +kernel
theorem dX5_endTiming_58 : decode cX5_endTiming 58 = .ok (.aload_n 0, 1) := by decide +kernel
theorem dX5_endTiming_59 : decode cX5_endTiming 59 = .ok (.bipush 7, 2) := by decide +kernel
theorem dX5_endTiming_61 : decode cX5_endTiming 61 = .ok (.aload_n 0, 1) := by decide +kernel
theorem dX5_endTiming_62 : decode cX5_endTiming 62 = .ok (.getfield 45, 3) := by decide +kernel
theorem dX5_endTiming_65 : decode cX5_endTiming 65 = .ok (.imul, 1) := by decide +kernel
theorem dX5_endTiming_66 : decode cX5_endTiming 66 = .ok (.iload_n 3, 1) := by decide +kernel
theorem dX5_endTiming_67 : decode cX5_endTiming 67 = .ok (.iadd, 1) := by decide +kernel
theorem dX5_endTiming_68 : decode cX5_endTiming 68 = .ok (.bipush 8, 2) := by decide +kernel
theorem dX5_endTiming_70 : decode cX5_endTiming 70 = .ok (.idiv, 1) := by decide +kernel
theorem dX5_endTiming_71 : decode cX5_endTiming 71 = .ok (.putfield 45, 3) := by decide +kernel
theorem dX5_endTiming_74 : decode cX5_endTiming 74 = .ok (.goto 20, 3) := by decide +kernel
theorem dX5_endTiming_77 : decode cX5_endTiming 77 = .ok (.aload_n 0, 1) := by decide +kernel
theorem dX5_endTiming_78 : decode cX5_endTiming 78 = .ok (.iconst 1, 1) := by decide +kernel
theorem dX5_endTiming_79 : decode cX5_endTiming 79 = .ok (.putfield 42, 3) := by decide +kernel
theorem dX5_endTiming_82 : decode cX5_endTiming 82 = .ok (.aload_n 0, 1) := by decide +kernel
theorem dX5_endTiming_83 : decode cX5_endTiming 83 = .ok (.iload_n 3, 1) := by decide +kernel
theorem dX5_endTiming_84 : decode cX5_endTiming 84 = .ok (.putfield 45, 3) := by decide +kernel
theorem dX5_endTiming_87 : decode cX5_endTiming 87 = .ok (.aload_n 0, 1) := by decide +kernel
theorem dX5_endTiming_88 : decode cX5_endTiming 88 = .ok (.iload_n 3, 1) := by decide +kernel
theorem dX5_endTiming_89 : decode cX5_endTiming 89 = .ok (.iconst 2, 1) := by decide +kernel
theorem dX5_endTiming_90 : decode cX5_endTiming 90 = .ok (.idiv, 1) := by decide +kernel
theorem dX5_endTiming_91 : decode cX5_endTiming 91 = .ok (.putfield 48, 3) := by decide +kernel
theorem dX5_endTiming_94 : decode cX5_endTiming 94 = .ok (.aload_n 0, 1) := by decide +kernel
theorem dX5_endTiming_95 : decode cX5_endTiming 95 = .ok (.sipush 1000, 3) := by decide +kernel
theorem dX5_endTiming_98 : decode cX5_endTiming 98 = .ok (.ldc 63, 2) := by decide +kernel
theorem dX5_endTiming_100 : decode cX5_endTiming 100 = .ok (.aload_n 0, 1) := by decide +kernel
theorem dX5_endTiming_101 : decode cX5_endTiming 101 = .ok (.getfield 45, 3) := by decide +kernel
theorem dX5_endTiming_104 : decode cX5_endTiming 104 = .ok (.bipush 10, 2) := by decide +kernel
theorem dX5_endTiming_106 : decode cX5_endTiming 106 = .ok (.iconst 4, 1) := by decide +kernel
theorem dX5_endTiming_107 : decode cX5_endTiming 107 = .ok (.aload_n 0, 1) := by decide +kernel
theorem dX5_endTiming_108 : decode cX5_endTiming 108 = .ok (.getfield 48, 3) := by decide +kernel
theorem dX5_endTiming_111 : decode cX5_endTiming 111 = .ok (.imul, 1) := by decide +kernel
theorem dX5_endTiming_112 : decode cX5_endTiming 112 = .ok (.invokestatic 64, 3) := by decide +kernel
theorem dX5_endTiming_115 : decode cX5_endTiming 115 = .ok (.iadd, 1) := by decide +kernel
theorem dX5_endTiming_116 : decode cX5_endTiming 116 = .ok (.invokestatic 68, 3) := by decide +kernel
theorem dX5_endTiming_119 : decode cX5_endTiming 119 = .ok (.invokestatic 64, 3) := by decide +kernel
theorem dX5_endTiming_122 : decode cX5_endTiming 122 = .ok (.putfield 22, 3) := by decide +kernel
theorem dX5_endTiming_125 : decode cX5_endTiming 125 = .ok (.return_, 1) := by decide +kernel
theorem wX5_endTiming_L94 {x : GX} {n0 sl0 : Nat} (X : Cx x cX5_endTiming RX5 none n0 sl0 1 17) {out : Mm} (hE : Ends x n0 sl0 none out) (hn : xn x = 4) (fu : Nat)   (a0 : Nat)  (M : Mm) (h : fX5_endTiming_L94 fu  a0 M = some out) : Gw x M 94 [(0, pR (some a0))] [] := by
  unfold fX5_endTiming_L94 at h
  refine g_aload_n X (pc := 94) 0 rfl rfl dX5_endTiming_94 ?_
  refine g_sipush X (pc := 95) (v := 1000) dX5_endTiming_95 (by decide) ?_
  refine g_ldc X (pc := 98) tb_661 dX5_endTiming_98 ?_
  refine g_aload_n X (pc := 100) 0 rfl rfl dX5_endTiming_100 ?_
  obtain ⟨v1, ev1, h⟩ := bd h
  refine g_getI X (pc := 101) fk_5_12 rfl rfl ev1 tb_926 dX5_endTiming_101 ?_
  refine g_bipush X (pc := 104) (v := 10) dX5_endTiming_104 (by decide) ?_
  refine g_iconst X (pc := 106) (v := 4) dX5_endTiming_106 (by decide) ?_
  refine g_aload_n X (pc := 107) 0 rfl rfl dX5_endTiming_107 ?_
  obtain ⟨v2, ev2, h⟩ := bd h
  refine g_getI X (pc := 108) fk_5_13 rfl rfl ev2 tb_927 dX5_endTiming_108 ?_
  refine g_imul X (pc := 111) dX5_endTiming_111 ?_
  refine g_mmax X (pc := 112) tb_656 tb_405 tb_13 tb_406 ⟨by decide, Nat.le_of_ble_eq_true rfl⟩ dX5_endTiming_112 ?_
  refine g_iadd X (pc := 115) dX5_endTiming_115 ?_
  refine g_mmin X (pc := 116) tb_662 tb_348 tb_13 tb_349 ⟨by decide, Nat.le_of_ble_eq_true rfl⟩ dX5_endTiming_116 ?_
  refine g_mmax X (pc := 119) tb_656 tb_405 tb_13 tb_406 ⟨by decide, Nat.le_of_ble_eq_true rfl⟩ dX5_endTiming_119 ?_
  obtain ⟨M3, eM3, h⟩ := bd h
  refine g_putI X (pc := 122) fk_5_3 rfl rfl rfl eM3 tb_907 (Or.inl rfl) dX5_endTiming_122 ?_
  obtain rfl := Option.some.inj h
  exact g_return X hE dX5_endTiming_125
theorem wX5_endTiming {x : GX} {n0 sl0 : Nat} (X : Cx x cX5_endTiming RX5 none n0 sl0 1 17) {out : Mm} (hE : Ends x n0 sl0 none out) (hn : xn x = 4) (fu : Nat)   (a0 : Nat) (a1 : Int32) (a2 : Int32)  (M : Mm) (h : fX5_endTiming fu  a0 a1 a2 M = some out) : Gw x M 0 [(0, pR (some a0)), (1, pI a1), (2, pI a2)] [] := by
  unfold fX5_endTiming at h
  refine g_aload_n X (pc := 0) 0 rfl rfl dX5_endTiming_0 ?_
  obtain ⟨v1, ev1, h⟩ := bd h
  refine g_getI X (pc := 1) fk_5_8 rfl rfl ev1 tb_921 dX5_endTiming_1 ?_
  refine g_if_eq X (pc := 4) (tgt := 16) dX5_endTiming_4 (by decide) (fun hc => ?_) (fun hc => ?_)
  · have h := (if_pos hc).symm.trans h
    obtain rfl := Option.some.inj h
    exact g_return X hE dX5_endTiming_16
  · have h := (if_neg hc).symm.trans h
    refine g_iload_n X (pc := 7) 1 rfl rfl dX5_endTiming_7 ?_
    refine g_aload_n X (pc := 8) 0 rfl rfl dX5_endTiming_8 ?_
    obtain ⟨v2, ev2, h⟩ := bd h
    refine g_getI X (pc := 9) fk_5_9 rfl rfl ev2 tb_923 dX5_endTiming_9 ?_
    refine g_isub X (pc := 12) dX5_endTiming_12 ?_
    refine g_if_gt X (pc := 13) (tgt := 17) dX5_endTiming_13 (by decide) (fun hc => ?_) (fun hc => ?_)
    · have h := (if_pos hc).symm.trans h
      refine g_aload_n X (pc := 17) 0 rfl rfl dX5_endTiming_17 ?_
      refine g_iconst X (pc := 18) (v := 0) dX5_endTiming_18 (by decide) ?_
      obtain ⟨M3, eM3, h⟩ := bd h
      refine g_putZ X (pc := 19) fk_5_8 rfl rfl rfl eM3 tb_921 (Or.inl rfl) dX5_endTiming_19 ?_
      refine g_iload_n X (pc := 22) 2 rfl rfl dX5_endTiming_22 ?_
      refine g_aload_n X (pc := 23) 0 rfl rfl dX5_endTiming_23 ?_
      obtain ⟨v4, ev4, h⟩ := bd h
      refine g_getI X (pc := 24) fk_5_10 rfl rfl ev4 tb_924 dX5_endTiming_24 ?_
      refine g_isub X (pc := 27) dX5_endTiming_27 ?_
      refine g_istore_n X (pc := 28) [(3, pI (a2 - v4)), (0, pR (some a0)), (1, pI a1), (2, pI a2)] rfl (lt_n hn (by decide)) rfl dX5_endTiming_28 ?_
      refine g_aload_n X (pc := 29) 1 rfl rfl dX5_endTiming_29 ?_
      obtain ⟨v5, ev5, h⟩ := bd h
      refine g_getI X (pc := 30) fk_5_11 rfl rfl ev5 tb_925 dX5_endTiming_30 ?_
      refine g_if_eq X (pc := 33) (tgt := 77) dX5_endTiming_33 (by decide) (fun hc => ?_) (fun hc => ?_)
      · have h := (if_pos hc).symm.trans h
        refine g_aload_n X (pc := 77) 1 rfl rfl dX5_endTiming_77 ?_
        refine g_iconst X (pc := 78) (v := 1) dX5_endTiming_78 (by decide) ?_
        obtain ⟨M6, eM6, h⟩ := bd h
        refine g_putZ X (pc := 79) fk_5_11 rfl rfl rfl eM6 tb_925 (Or.inl rfl) dX5_endTiming_79 ?_
        refine g_aload_n X (pc := 82) 1 rfl rfl dX5_endTiming_82 ?_
        refine g_iload_n X (pc := 83) 0 rfl rfl dX5_endTiming_83 ?_
        obtain ⟨M7, eM7, h⟩ := bd h
        refine g_putI X (pc := 84) fk_5_12 rfl rfl rfl eM7 tb_926 (Or.inl rfl) dX5_endTiming_84 ?_
        refine g_aload_n X (pc := 87) 1 rfl rfl dX5_endTiming_87 ?_
        refine g_iload_n X (pc := 88) 0 rfl rfl dX5_endTiming_88 ?_
        refine g_iconst X (pc := 89) (v := 2) dX5_endTiming_89 (by decide) ?_
        refine g_idiv X (pc := 90) (by decide) dX5_endTiming_90 ?_
        obtain ⟨M8, eM8, h⟩ := bd h
        refine g_putI X (pc := 91) fk_5_13 rfl rfl rfl eM8 tb_927 (Or.inl rfl) dX5_endTiming_91 ?_
        refine g_sub [1] [(0, pR (some a0))] rfl ?_
        exact wX5_endTiming_L94 X hE hn fu   a0 M8 h
      · have h := (if_neg hc).symm.trans h
        refine g_aload_n X (pc := 36) 1 rfl rfl dX5_endTiming_36 ?_
        refine g_iconst X (pc := 37) (v := 3) dX5_endTiming_37 (by decide) ?_
        refine g_aload_n X (pc := 38) 1 rfl rfl dX5_endTiming_38 ?_
        obtain ⟨v9, ev9, h⟩ := bd h
        refine g_getI X (pc := 39) fk_5_13 rfl rfl ev9 tb_927 dX5_endTiming_39 ?_
        refine g_imul X (pc := 42) dX5_endTiming_42 ?_
        refine g_aload_n X (pc := 43) 1 rfl rfl dX5_endTiming_43 ?_
        obtain ⟨v10, ev10, h⟩ := bd h
        refine g_getI X (pc := 44) fk_5_12 rfl rfl ev10 tb_926 dX5_endTiming_44 ?_
        refine g_iload_n X (pc := 47) 0 rfl rfl dX5_endTiming_47 ?_
        refine g_isub X (pc := 48) dX5_endTiming_48 ?_
        refine g_mabs X (pc := 49) tb_1099 tb_1100 tb_13 tb_1101 ⟨by decide, Nat.le_of_ble_eq_true rfl⟩ dX5_endTiming_49 ?_
        refine g_iadd X (pc := 52) dX5_endTiming_52 ?_
        refine g_iconst X (pc := 53) (v := 4) dX5_endTiming_53 (by decide) ?_
        refine g_idiv X (pc := 54) (by decide) dX5_endTiming_54 ?_
        obtain ⟨M11, eM11, h⟩ := bd h
        refine g_putI X (pc := 55) fk_5_13 rfl rfl rfl eM11 tb_927 (Or.inl rfl) dX5_endTiming_55 ?_
        refine g_aload_n X (pc := 58) 1 rfl rfl dX5_endTiming_58 ?_
        refine g_bipush X (pc := 59) (v := 7) dX5_endTiming_59 (by decide) ?_
        refine g_aload_n X (pc := 61) 1 rfl rfl dX5_endTiming_61 ?_
        obtain ⟨v12, ev12, h⟩ := bd h
        refine g_getI X (pc := 62) fk_5_12 rfl rfl ev12 tb_926 dX5_endTiming_62 ?_
        refine g_imul X (pc := 65) dX5_endTiming_65 ?_
        refine g_iload_n X (pc := 66) 0 rfl rfl dX5_endTiming_66 ?_
        refine g_iadd X (pc := 67) dX5_endTiming_67 ?_
        refine g_bipush X (pc := 68) (v := 8) dX5_endTiming_68 (by decide) ?_
        refine g_idiv X (pc := 70) (by decide) dX5_endTiming_70 ?_
        obtain ⟨M13, eM13, h⟩ := bd h
        refine g_putI X (pc := 71) fk_5_12 rfl rfl rfl eM13 tb_926 (Or.inl rfl) dX5_endTiming_71 ?_
        refine g_goto X (pc := 74) (tgt := 94) dX5_endTiming_74 (by decide) ?_
        refine g_sub [1] [(0, pR (some a0))] rfl ?_
        exact wX5_endTiming_L94 X hE hn fu   a0 M13 h
    · have h := (if_neg hc).symm.trans h
      obtain rfl := Option.some.inj h
      exact g_return X hE dX5_endTiming_16
theorem hyX5_endTiming : yX5_endTiming.cls ≠ "java/lang/invoke/MethodHandle" ∧ yX5_endTiming.cls ≠ "java/lang/invoke/VarHandle" ∧ (parseMethodDescriptor yX5_endTiming.desc).map (fun d => d.parameters.length) = some 2 := ⟨by decide +kernel, by decide +kernel, by decide +kernel⟩
theorem ctX5_endTiming (l : Launch) (E : Nat → Nat) (D : va_G) (dA : Nat → ClassId) (lo : Nat) (H0 : Heap) (fu : Nat) (a0 : Nat) (a1 : Int32) (a2 : Int32) (M : Mm) (out : Mm) (h : fX5_endTiming fu a0 a1 a2 M = some out) : Ct l E D dA lo H0 yX5_endTiming cX5_endTiming 4 none 1 17 [pR (some a0), pI a1, pI a2] M none out := by
  refine ct_of (by decide +kernel) (Nat.le_of_ble_eq_true rfl) ?_
  intro x hl he hd ha ho hh hn hin X hE
  exact wX5_endTiming X hE hn fu a0 a1 a2 M h
/-! WebHost$Pace.grow(I)V -/
def fX5_grow (fu : Nat)  (a0 : Nat) (a1 : Int32)  (M : Mm) : Option (Mm) :=
    (gI M 5 327 (some a0)).bind fun v1 =>
    if v1 = 0 then (
    (gI M 5 321 (some a0)).bind fun v2 =>
    (gI M 5 322 (some a0)).bind fun v3 =>
    if v3 ≤ v2 then (
    (gI M 5 321 (some a0)).bind fun v4 =>
    (gI M 5 320 (some a0)).bind fun v5 =>
    (gI M 5 320 (some a0)).bind fun v6 =>
    (gI M 5 321 (some a0)).bind fun v7 =>
    if (jmax (1 : Int32) v7) = 0 then none else
    (pF M 5 321 (some a0) (jmin (65535 : Int32) (v4 + (jmax (1 : Int32) ((v5 * v6) / (jmax (1 : Int32) v7)))))).bind fun M8 =>
    some M8)
    else (
    (gI M 5 321 (some a0)).bind fun v9 =>
    (gI M 5 320 (some a0)).bind fun v10 =>
    (pF M 5 321 (some a0) (jmin (65535 : Int32) (v9 + (jmin a1 v10)))).bind fun M11 =>
    some M11))
    else (
    (pZ M 5 327 (some a0) (0 : Int32)).bind fun M12 =>
    (gI M12 5 322 (some a0)).bind fun v13 =>
    (pF M12 5 321 (some a0) v13).bind fun M14 =>
    some M14)
theorem dX5_grow_0 : decode cX5_grow 0 = .ok (.aload_n 0, 1) := by decide +kernel
theorem dX5_grow_1 : decode cX5_grow 1 = .ok (.getfield 35, 3) := by decide +kernel
theorem dX5_grow_4 : decode cX5_grow 4 = .ok (.ifCond .eq 19, 3) := by decide +kernel
theorem dX5_grow_7 : decode cX5_grow 7 = .ok (.aload_n 0, 1) := by decide +kernel
theorem dX5_grow_8 : decode cX5_grow 8 = .ok (.iconst 0, 1) := by decide +kernel
theorem dX5_grow_9 : decode cX5_grow 9 = .ok (.putfield 35, 3) := by decide +kernel
theorem dX5_grow_12 : decode cX5_grow 12 = .ok (.aload_n 0, 1) := by decide +kernel
theorem dX5_grow_13 : decode cX5_grow 13 = .ok (.aload_n 0, 1) := by decide +kernel
theorem dX5_grow_14 : decode cX5_grow 14 = .ok (.getfield 19, 3) := by decide +kernel
theorem dX5_grow_17 : decode cX5_grow 17 = .ok (.putfield 15, 3) := by decide +kernel
theorem dX5_grow_20 : decode cX5_grow 20 = .ok (.goto 75, 3) := by decide +kernel
theorem dX5_grow_23 : decode cX5_grow 23 = .ok (.aload_n 0, 1) := by decide +kernel
theorem dX5_grow_24 : decode cX5_grow 24 = .ok (.getfield 15, 3) := by decide +kernel
theorem dX5_grow_27 : decode cX5_grow 27 = .ok (.aload_n 0, 1) := by decide +kernel
theorem dX5_grow_28 : decode cX5_grow 28 = .ok (.getfield 19, 3) := by decide +kernel
theorem dX5_grow_31 : decode cX5_grow 31 = .ok (.if_icmp .ge 28, 3) := by decide +kernel
theorem dX5_grow_34 : decode cX5_grow 34 = .ok (.aload_n 0, 1) := by decide +kernel
theorem dX5_grow_35 : decode cX5_grow 35 = .ok (.ldc 18, 2) := by decide +kernel
theorem dX5_grow_37 : decode cX5_grow 37 = .ok (.aload_n 0, 1) := by decide +kernel
theorem dX5_grow_38 : decode cX5_grow 38 = .ok (.getfield 15, 3) := by decide +kernel
theorem dX5_grow_41 : decode cX5_grow 41 = .ok (.iload_n 1, 1) := by decide +kernel
theorem dX5_grow_42 : decode cX5_grow 42 = .ok (.aload_n 0, 1) := by decide +kernel
theorem dX5_grow_43 : decode cX5_grow 43 = .ok (.getfield 9, 3) := by decide +kernel
theorem dX5_grow_46 : decode cX5_grow 46 = .ok (.invokestatic 68, 3) := by decide +kernel
theorem dX5_grow_49 : decode cX5_grow 49 = .ok (.iadd, 1) := by decide +kernel
theorem dX5_grow_50 : decode cX5_grow 50 = .ok (.invokestatic 68, 3) := by decide +kernel
theorem dX5_grow_53 : decode cX5_grow 53 = .ok (.putfield 15, 3) := by decide +kernel
theorem dX5_grow_56 : decode cX5_grow 56 = .ok (.goto 39, 3) := by decide +kernel
theorem dX5_grow_59 : decode cX5_grow 59 = .ok (.aload_n 0, 1) := by decide +kernel
theorem dX5_grow_60 : decode cX5_grow 60 = .ok (.ldc 18, 2) := by decide +kernel
theorem dX5_grow_62 : decode cX5_grow 62 = .ok (.aload_n 0, 1) := by decide +kernel
theorem dX5_grow_63 : decode cX5_grow 63 = .ok (.getfield 15, 3) := by decide +kernel
theorem dX5_grow_66 : decode cX5_grow 66 = .ok (.iconst 1, 1) := by decide +kernel
theorem dX5_grow_67 : decode cX5_grow 67 = .ok (.aload_n 0, 1) := by decide +kernel
theorem dX5_grow_68 : decode cX5_grow 68 = .ok (.getfield 9, 3) := by decide +kernel
theorem dX5_grow_71 : decode cX5_grow 71 = .ok (.aload_n 0, 1) := by decide +kernel
theorem dX5_grow_72 : decode cX5_grow 72 = .ok (.getfield 9, 3) := by decide +kernel
theorem dX5_grow_75 : decode cX5_grow 75 = .ok (.imul, 1) := by decide +kernel
theorem dX5_grow_76 : decode cX5_grow 76 = .ok (.iconst 1, 1) := by decide +kernel
theorem dX5_grow_77 : decode cX5_grow 77 = .ok (.aload_n 0, 1) := by decide +kernel
theorem dX5_grow_78 : decode cX5_grow 78 = .ok (.getfield 15, 3) := by decide +kernel
theorem dX5_grow_81 : decode cX5_grow 81 = .ok (.invokestatic 64, 3) := by decide +kernel
theorem dX5_grow_84 : decode cX5_grow 84 = .ok (.idiv, 1) := by decide +kernel
theorem dX5_grow_85 : decode cX5_grow 85 = .ok (.invokestatic 64, 3) := by decide +kernel
theorem dX5_grow_88 : decode cX5_grow 88 = .ok (.iadd, 1) := by decide +kernel
theorem dX5_grow_89 : decode cX5_grow 89 = .ok (.invokestatic 68, 3) := by decide +kernel
theorem dX5_grow_92 : decode cX5_grow 92 = .ok (.putfield 15, 3) := by decide +kernel
theorem dX5_grow_95 : decode cX5_grow 95 = .ok (.return_, 1) := by decide +kernel
theorem wX5_grow {x : GX} {n0 sl0 : Nat} (X : Cx x cX5_grow RX5 none n0 sl0 1 18) {out : Mm} (hE : Ends x n0 sl0 none out) (hn : xn x = 2) (fu : Nat)   (a0 : Nat) (a1 : Int32)  (M : Mm) (h : fX5_grow fu  a0 a1 M = some out) : Gw x M 0 [(0, pR (some a0)), (1, pI a1)] [] := by
  unfold fX5_grow at h
  refine g_aload_n X (pc := 0) 0 rfl rfl dX5_grow_0 ?_
  obtain ⟨v1, ev1, h⟩ := bd h
  refine g_getI X (pc := 1) fk_5_7 rfl rfl ev1 tb_920 dX5_grow_1 ?_
  refine g_if_eq X (pc := 4) (tgt := 23) dX5_grow_4 (by decide) (fun hc => ?_) (fun hc => ?_)
  · have h := (if_pos hc).symm.trans h
    refine g_aload_n X (pc := 23) 0 rfl rfl dX5_grow_23 ?_
    obtain ⟨v2, ev2, h⟩ := bd h
    refine g_getI X (pc := 24) fk_5_1 rfl rfl ev2 tb_903 dX5_grow_24 ?_
    refine g_aload_n X (pc := 27) 0 rfl rfl dX5_grow_27 ?_
    obtain ⟨v3, ev3, h⟩ := bd h
    refine g_getI X (pc := 28) fk_5_2 rfl rfl ev3 tb_905 dX5_grow_28 ?_
    refine g_icmp_ge X (pc := 31) (tgt := 59) dX5_grow_31 (by decide) (fun hc => ?_) (fun hc => ?_)
    · have h := (if_pos hc).symm.trans h
      refine g_aload_n X (pc := 59) 0 rfl rfl dX5_grow_59 ?_
      refine g_ldc X (pc := 60) tb_1066 dX5_grow_60 ?_
      refine g_aload_n X (pc := 62) 0 rfl rfl dX5_grow_62 ?_
      obtain ⟨v4, ev4, h⟩ := bd h
      refine g_getI X (pc := 63) fk_5_1 rfl rfl ev4 tb_903 dX5_grow_63 ?_
      refine g_iconst X (pc := 66) (v := 1) dX5_grow_66 (by decide) ?_
      refine g_aload_n X (pc := 67) 0 rfl rfl dX5_grow_67 ?_
      obtain ⟨v5, ev5, h⟩ := bd h
      refine g_getI X (pc := 68) fk_5_0 rfl rfl ev5 tb_901 dX5_grow_68 ?_
      refine g_aload_n X (pc := 71) 0 rfl rfl dX5_grow_71 ?_
      obtain ⟨v6, ev6, h⟩ := bd h
      refine g_getI X (pc := 72) fk_5_0 rfl rfl ev6 tb_901 dX5_grow_72 ?_
      refine g_imul X (pc := 75) dX5_grow_75 ?_
      refine g_iconst X (pc := 76) (v := 1) dX5_grow_76 (by decide) ?_
      refine g_aload_n X (pc := 77) 0 rfl rfl dX5_grow_77 ?_
      obtain ⟨v7, ev7, h⟩ := bd h
      refine g_getI X (pc := 78) fk_5_1 rfl rfl ev7 tb_903 dX5_grow_78 ?_
      refine g_mmax X (pc := 81) tb_656 tb_405 tb_13 tb_406 ⟨by decide, Nat.le_of_ble_eq_true rfl⟩ dX5_grow_81 ?_
      by_cases hz : (jmax (1 : Int32) v7) = 0
      · rw [if_pos hz] at h; cases h
      have h := (if_neg hz).symm.trans h
      refine g_idiv X (pc := 84) hz dX5_grow_84 ?_
      refine g_mmax X (pc := 85) tb_656 tb_405 tb_13 tb_406 ⟨by decide, Nat.le_of_ble_eq_true rfl⟩ dX5_grow_85 ?_
      refine g_iadd X (pc := 88) dX5_grow_88 ?_
      refine g_mmin X (pc := 89) tb_662 tb_348 tb_13 tb_349 ⟨by decide, Nat.le_of_ble_eq_true rfl⟩ dX5_grow_89 ?_
      obtain ⟨M8, eM8, h⟩ := bd h
      refine g_putI X (pc := 92) fk_5_1 rfl rfl rfl eM8 tb_903 (Or.inl rfl) dX5_grow_92 ?_
      obtain rfl := Option.some.inj h
      exact g_return X hE dX5_grow_95
    · have h := (if_neg hc).symm.trans h
      refine g_aload_n X (pc := 34) 0 rfl rfl dX5_grow_34 ?_
      refine g_ldc X (pc := 35) tb_1066 dX5_grow_35 ?_
      refine g_aload_n X (pc := 37) 0 rfl rfl dX5_grow_37 ?_
      obtain ⟨v9, ev9, h⟩ := bd h
      refine g_getI X (pc := 38) fk_5_1 rfl rfl ev9 tb_903 dX5_grow_38 ?_
      refine g_iload_n X (pc := 41) 1 rfl rfl dX5_grow_41 ?_
      refine g_aload_n X (pc := 42) 0 rfl rfl dX5_grow_42 ?_
      obtain ⟨v10, ev10, h⟩ := bd h
      refine g_getI X (pc := 43) fk_5_0 rfl rfl ev10 tb_901 dX5_grow_43 ?_
      refine g_mmin X (pc := 46) tb_662 tb_348 tb_13 tb_349 ⟨by decide, Nat.le_of_ble_eq_true rfl⟩ dX5_grow_46 ?_
      refine g_iadd X (pc := 49) dX5_grow_49 ?_
      refine g_mmin X (pc := 50) tb_662 tb_348 tb_13 tb_349 ⟨by decide, Nat.le_of_ble_eq_true rfl⟩ dX5_grow_50 ?_
      obtain ⟨M11, eM11, h⟩ := bd h
      refine g_putI X (pc := 53) fk_5_1 rfl rfl rfl eM11 tb_903 (Or.inl rfl) dX5_grow_53 ?_
      refine g_goto X (pc := 56) (tgt := 95) dX5_grow_56 (by decide) ?_
      obtain rfl := Option.some.inj h
      exact g_return X hE dX5_grow_95
  · have h := (if_neg hc).symm.trans h
    refine g_aload_n X (pc := 7) 0 rfl rfl dX5_grow_7 ?_
    refine g_iconst X (pc := 8) (v := 0) dX5_grow_8 (by decide) ?_
    obtain ⟨M12, eM12, h⟩ := bd h
    refine g_putZ X (pc := 9) fk_5_7 rfl rfl rfl eM12 tb_920 (Or.inl rfl) dX5_grow_9 ?_
    refine g_aload_n X (pc := 12) 0 rfl rfl dX5_grow_12 ?_
    refine g_aload_n X (pc := 13) 0 rfl rfl dX5_grow_13 ?_
    obtain ⟨v13, ev13, h⟩ := bd h
    refine g_getI X (pc := 14) fk_5_2 rfl rfl ev13 tb_905 dX5_grow_14 ?_
    obtain ⟨M14, eM14, h⟩ := bd h
    refine g_putI X (pc := 17) fk_5_1 rfl rfl rfl eM14 tb_903 (Or.inl rfl) dX5_grow_17 ?_
    refine g_goto X (pc := 20) (tgt := 95) dX5_grow_20 (by decide) ?_
    obtain rfl := Option.some.inj h
    exact g_return X hE dX5_grow_95
theorem hyX5_grow : yX5_grow.cls ≠ "java/lang/invoke/MethodHandle" ∧ yX5_grow.cls ≠ "java/lang/invoke/VarHandle" ∧ (parseMethodDescriptor yX5_grow.desc).map (fun d => d.parameters.length) = some 1 := ⟨by decide +kernel, by decide +kernel, by decide +kernel⟩
theorem ctX5_grow (l : Launch) (E : Nat → Nat) (D : va_G) (dA : Nat → ClassId) (lo : Nat) (H0 : Heap) (fu : Nat) (a0 : Nat) (a1 : Int32) (M : Mm) (out : Mm) (h : fX5_grow fu a0 a1 M = some out) : Ct l E D dA lo H0 yX5_grow cX5_grow 2 none 1 18 [pR (some a0), pI a1] M none out := by
  refine ct_of (by decide +kernel) (Nat.le_of_ble_eq_true rfl) ?_
  intro x hl he hd ha ho hh hn hin X hE
  exact wX5_grow X hE hn fu a0 a1 M h
/-! WebHost$Pace.lowerThreshold(I)V -/
def fX5_lowerThreshold (fu : Nat)  (a0 : Nat) (a1 : Int32)  (M : Mm) : Option (Mm) :=
    (gI M 5 320 (some a0)).bind fun v1 =>
    (pF M 5 322 (some a0) (jmax (a1 / (2 : Int32)) ((2 : Int32) * v1))).bind fun M2 =>
    some M2
theorem dX5_lowerThreshold_0 : decode cX5_lowerThreshold 0 = .ok (.aload_n 0, 1) := by decide +kernel
theorem dX5_lowerThreshold_1 : decode cX5_lowerThreshold 1 = .ok (.iload_n 1, 1) := by decide +kernel
theorem dX5_lowerThreshold_2 : decode cX5_lowerThreshold 2 = .ok (.iconst 2, 1) := by decide +kernel
theorem dX5_lowerThreshold_3 : decode cX5_lowerThreshold 3 = .ok (.idiv, 1) := by decide +kernel
theorem dX5_lowerThreshold_4 : decode cX5_lowerThreshold 4 = .ok (.iconst 2, 1) := by decide +kernel
theorem dX5_lowerThreshold_5 : decode cX5_lowerThreshold 5 = .ok (.aload_n 0, 1) := by decide +kernel
theorem dX5_lowerThreshold_6 : decode cX5_lowerThreshold 6 = .ok (.getfield 9, 3) := by decide +kernel
theorem dX5_lowerThreshold_9 : decode cX5_lowerThreshold 9 = .ok (.imul, 1) := by decide +kernel
theorem dX5_lowerThreshold_10 : decode cX5_lowerThreshold 10 = .ok (.invokestatic 64, 3) := by decide +kernel
theorem dX5_lowerThreshold_13 : decode cX5_lowerThreshold 13 = .ok (.putfield 19, 3) := by decide +kernel
theorem dX5_lowerThreshold_16 : decode cX5_lowerThreshold 16 = .ok (.return_, 1) := by decide +kernel
theorem wX5_lowerThreshold {x : GX} {n0 sl0 : Nat} (X : Cx x cX5_lowerThreshold RX5 none n0 sl0 1 14) {out : Mm} (hE : Ends x n0 sl0 none out) (hn : xn x = 2) (fu : Nat)   (a0 : Nat) (a1 : Int32)  (M : Mm) (h : fX5_lowerThreshold fu  a0 a1 M = some out) : Gw x M 0 [(0, pR (some a0)), (1, pI a1)] [] := by
  unfold fX5_lowerThreshold at h
  refine g_aload_n X (pc := 0) 0 rfl rfl dX5_lowerThreshold_0 ?_
  refine g_iload_n X (pc := 1) 1 rfl rfl dX5_lowerThreshold_1 ?_
  refine g_iconst X (pc := 2) (v := 2) dX5_lowerThreshold_2 (by decide) ?_
  refine g_idiv X (pc := 3) (by decide) dX5_lowerThreshold_3 ?_
  refine g_iconst X (pc := 4) (v := 2) dX5_lowerThreshold_4 (by decide) ?_
  refine g_aload_n X (pc := 5) 0 rfl rfl dX5_lowerThreshold_5 ?_
  obtain ⟨v1, ev1, h⟩ := bd h
  refine g_getI X (pc := 6) fk_5_0 rfl rfl ev1 tb_901 dX5_lowerThreshold_6 ?_
  refine g_imul X (pc := 9) dX5_lowerThreshold_9 ?_
  refine g_mmax X (pc := 10) tb_656 tb_405 tb_13 tb_406 ⟨by decide, Nat.le_of_ble_eq_true rfl⟩ dX5_lowerThreshold_10 ?_
  obtain ⟨M2, eM2, h⟩ := bd h
  refine g_putI X (pc := 13) fk_5_2 rfl rfl rfl eM2 tb_905 (Or.inl rfl) dX5_lowerThreshold_13 ?_
  obtain rfl := Option.some.inj h
  exact g_return X hE dX5_lowerThreshold_16
theorem hyX5_lowerThreshold : yX5_lowerThreshold.cls ≠ "java/lang/invoke/MethodHandle" ∧ yX5_lowerThreshold.cls ≠ "java/lang/invoke/VarHandle" ∧ (parseMethodDescriptor yX5_lowerThreshold.desc).map (fun d => d.parameters.length) = some 1 := ⟨by decide +kernel, by decide +kernel, by decide +kernel⟩
theorem ctX5_lowerThreshold (l : Launch) (E : Nat → Nat) (D : va_G) (dA : Nat → ClassId) (lo : Nat) (H0 : Heap) (fu : Nat) (a0 : Nat) (a1 : Int32) (M : Mm) (out : Mm) (h : fX5_lowerThreshold fu a0 a1 M = some out) : Ct l E D dA lo H0 yX5_lowerThreshold cX5_lowerThreshold 2 none 1 14 [pR (some a0), pI a1] M none out := by
  refine ct_of (by decide +kernel) (Nat.le_of_ble_eq_true rfl) ?_
  intro x hl he hd ha ho hh hn hin X hE
  exact wX5_lowerThreshold X hE hn fu a0 a1 M h
/-! WebHost$Pace.countDuplicate(I)Z -/
def fX5_countDuplicate_L36 (fu : Nat)  (a0 : Nat) (a1 : Int32)  (M : Mm) : Option (Int32 × Mm) :=
    (gI M 5 326 (some a0)).bind fun v1 =>
    if v1 = (3 : Int32) then (
    (rc M 5 (some a0)).bind fun q2 =>
    (fX5_lowerThreshold fu q2 a1 M).bind fun M3 =>
    (gI M3 5 322 (some a0)).bind fun v4 =>
    (gI M3 5 320 (some a0)).bind fun v5 =>
    (pF M3 5 321 (some a0) (v4 + ((3 : Int32) * v5))).bind fun M6 =>
    (pZ M6 5 327 (some a0) (1 : Int32)).bind fun M7 =>
    rN .boolean (1 : Int32) M7)
    else (
    rN .boolean (0 : Int32) M)
def fX5_countDuplicate (fu : Nat)  (a0 : Nat) (a1 : Int32)  (M : Mm) : Option (Int32 × Mm) :=
    (gI M 5 326 (some a0)).bind fun v1 =>
    (pF M 5 326 (some a0) (v1 + (1 : Int32))).bind fun M2 =>
    (gI M2 5 326 (some a0)).bind fun v3 =>
    if v3 ≤ (3 : Int32) then (
    fX5_countDuplicate_L36 fu  a0 a1 M2)
    else (
    (gI M2 5 321 (some a0)).bind fun v4 =>
    (gI M2 5 320 (some a0)).bind fun v5 =>
    (pF M2 5 321 (some a0) (jmin (65535 : Int32) (v4 + v5))).bind fun M6 =>
    fX5_countDuplicate_L36 fu  a0 a1 M6)
theorem dX5_countDuplicate_0 : decode cX5_countDuplicate 0 = .ok (.aload_n 0, 1) := by decide +kernel
theorem dX5_countDuplicate_1 : decode cX5_countDuplicate 1 = .ok (.dup, 1) := by decide +kernel
theorem dX5_countDuplicate_2 : decode cX5_countDuplicate 2 = .ok (.getfield 32, 3) := by decide +kernel
theorem dX5_countDuplicate_5 : decode cX5_countDuplicate 5 = .ok (.iconst 1, 1) := by decide +kernel
theorem dX5_countDuplicate_6 : decode cX5_countDuplicate 6 = .ok (.iadd, 1) := by decide +kernel
theorem dX5_countDuplicate_7 : decode cX5_countDuplicate 7 = .ok (.putfield 32, 3) := by decide +kernel
theorem dX5_countDuplicate_10 : decode cX5_countDuplicate 10 = .ok (.aload_n 0, 1) := by decide +kernel
theorem dX5_countDuplicate_11 : decode cX5_countDuplicate 11 = .ok (.getfield 32, 3) := by decide +kernel
theorem dX5_countDuplicate_14 : decode cX5_countDuplicate 14 = .ok (.iconst 3, 1) := by decide +kernel
theorem dX5_countDuplicate_15 : decode cX5_countDuplicate 15 = .ok (.if_icmp .le 21, 3) := by decide +kernel
theorem dX5_countDuplicate_18 : decode cX5_countDuplicate 18 = .ok (.aload_n 0, 1) := by decide +kernel
theorem dX5_countDuplicate_19 : decode cX5_countDuplicate 19 = .ok (.ldc 18, 2) := by decide +kernel
theorem dX5_countDuplicate_21 : decode cX5_countDuplicate 21 = .ok (.aload_n 0, 1) := by decide +kernel
theorem dX5_countDuplicate_22 : decode cX5_countDuplicate 22 = .ok (.getfield 15, 3) := by decide +kernel
theorem dX5_countDuplicate_25 : decode cX5_countDuplicate 25 = .ok (.aload_n 0, 1) := by decide +kernel
theorem dX5_countDuplicate_26 : decode cX5_countDuplicate 26 = .ok (.getfield 9, 3) := by decide +kernel
theorem dX5_countDuplicate_29 : decode cX5_countDuplicate 29 = .ok (.iadd, 1) := by decide +kernel
theorem dX5_countDuplicate_30 : decode cX5_countDuplicate 30 = .ok (.invokestatic 68, 3) := by decide +kernel
theorem dX5_countDuplicate_33 : decode cX5_countDuplicate 33 = .ok (.putfield 15, 3) := by decide +kernel
theorem dX5_countDuplicate_36 : decode cX5_countDuplicate 36 = .ok (.aload_n 0, 1) := by decide +kernel
theorem dX5_countDuplicate_37 : decode cX5_countDuplicate 37 = .ok (.getfield 32, 3) := by decide +kernel
theorem dX5_countDuplicate_40 : decode cX5_countDuplicate 40 = .ok (.iconst 3, 1) := by decide +kernel
theorem dX5_countDuplicate_41 : decode cX5_countDuplicate 41 = .ok (.if_icmp .eq 5, 3) := by decide +kernel
theorem dX5_countDuplicate_44 : decode cX5_countDuplicate 44 = .ok (.iconst 0, 1) := by decide +kernel
theorem dX5_countDuplicate_45 : decode cX5_countDuplicate 45 = .ok (.ireturn, 1) := by decide +kernel
theorem dX5_countDuplicate_46 : decode cX5_countDuplicate 46 = .ok (.aload_n 0, 1) := by decide +kernel
theorem dX5_countDuplicate_47 : decode cX5_countDuplicate 47 = .ok (.iload_n 1, 1) := by decide +kernel
theorem dX5_countDuplicate_48 : decode cX5_countDuplicate 48 = .ok (.invokevirtual 71, 3) := by decide +kernel
theorem dX5_countDuplicate_51 : decode cX5_countDuplicate 51 = .ok (.aload_n 0, 1) := by decide +kernel
theorem dX5_countDuplicate_52 : decode cX5_countDuplicate 52 = .ok (.aload_n 0, 1) := by decide +kernel
theorem dX5_countDuplicate_53 : decode cX5_countDuplicate 53 = .ok (.getfield 19, 3) := by decide +kernel
theorem dX5_countDuplicate_56 : decode cX5_countDuplicate 56 = .ok (.iconst 3, 1) := by decide +kernel
theorem dX5_countDuplicate_57 : decode cX5_countDuplicate 57 = .ok (.aload_n 0, 1) := by decide +kernel
theorem dX5_countDuplicate_58 : decode cX5_countDuplicate 58 = .ok (.getfield 9, 3) := by decide +kernel
theorem dX5_countDuplicate_61 : decode cX5_countDuplicate 61 = .ok (.imul, 1) := by decide +kernel
theorem dX5_countDuplicate_62 : decode cX5_countDuplicate 62 = .ok (.iadd, 1) := by decide +kernel
theorem dX5_countDuplicate_63 : decode cX5_countDuplicate 63 = .ok (.putfield 15, 3) := by decide +kernel
theorem dX5_countDuplicate_66 : decode cX5_countDuplicate 66 = .ok (.aload_n 0, 1) := by decide +kernel
theorem dX5_countDuplicate_67 : decode cX5_countDuplicate 67 = .ok (.iconst 1, 1) := by decide +kernel
theorem dX5_countDuplicate_68 : decode cX5_countDuplicate 68 = .ok (.putfield 35, 3) := by decide +kernel
theorem dX5_countDuplicate_71 : decode cX5_countDuplicate 71 = .ok (.iconst 1, 1) := by decide +kernel
theorem dX5_countDuplicate_72 : decode cX5_countDuplicate 72 = .ok (.ireturn, 1) := by decide +kernel
theorem wX5_countDuplicate_L36 {x : GX} {n0 sl0 : Nat} (X : Cx x cX5_countDuplicate RX5 (some .boolean) n0 sl0 2 35) {out : Int32 × Mm} (hE : Ends x n0 sl0 (some (pI out.1)) out.2) (hn : xn x = 2) (fu : Nat)   (a0 : Nat) (a1 : Int32)  (M : Mm) (h : fX5_countDuplicate_L36 fu  a0 a1 M = some out) : Gw x M 36 [(0, pR (some a0)), (1, pI a1)] [] := by
  unfold fX5_countDuplicate_L36 at h
  refine g_aload_n X (pc := 36) 0 rfl rfl dX5_countDuplicate_36 ?_
  obtain ⟨v1, ev1, h⟩ := bd h
  refine g_getI X (pc := 37) fk_5_6 rfl rfl ev1 tb_917 dX5_countDuplicate_37 ?_
  refine g_iconst X (pc := 40) (v := 3) dX5_countDuplicate_40 (by decide) ?_
  refine g_icmp_eq X (pc := 41) (tgt := 46) dX5_countDuplicate_41 (by decide) (fun hc => ?_) (fun hc => ?_)
  · have h := (if_pos hc).symm.trans h
    refine g_aload_n X (pc := 46) 0 rfl rfl dX5_countDuplicate_46 ?_
    refine g_iload_n X (pc := 47) 1 rfl rfl dX5_countDuplicate_47 ?_
    obtain ⟨q2, eq2, h⟩ := bd h
    obtain ⟨M3, eM3, h⟩ := bd h
    refine g_callV X (pc := 48) (M' := M3) (ro := none) (c := 5) rfl (by decide) (as := [pI a1]) (as' := [pI a1]) (st := []) eq2 (ctX5_lowerThreshold _ _ _ _ _ _ fu q2 a1 M _ eM3) tb_655 tb_1122 tb_653 tb_654 tb_20 ⟨rfl, hyX5_lowerThreshold⟩ rfl rfl ⟨by decide, by decide⟩ (Nat.le_of_ble_eq_true rfl) dX5_countDuplicate_48 ?_
    refine g_aload_n X (pc := 51) 0 rfl rfl dX5_countDuplicate_51 ?_
    refine g_aload_n X (pc := 52) 0 rfl rfl dX5_countDuplicate_52 ?_
    obtain ⟨v4, ev4, h⟩ := bd h
    refine g_getI X (pc := 53) fk_5_2 rfl rfl ev4 tb_905 dX5_countDuplicate_53 ?_
    refine g_iconst X (pc := 56) (v := 3) dX5_countDuplicate_56 (by decide) ?_
    refine g_aload_n X (pc := 57) 0 rfl rfl dX5_countDuplicate_57 ?_
    obtain ⟨v5, ev5, h⟩ := bd h
    refine g_getI X (pc := 58) fk_5_0 rfl rfl ev5 tb_901 dX5_countDuplicate_58 ?_
    refine g_imul X (pc := 61) dX5_countDuplicate_61 ?_
    refine g_iadd X (pc := 62) dX5_countDuplicate_62 ?_
    obtain ⟨M6, eM6, h⟩ := bd h
    refine g_putI X (pc := 63) fk_5_1 rfl rfl rfl eM6 tb_903 (Or.inl rfl) dX5_countDuplicate_63 ?_
    refine g_aload_n X (pc := 66) 0 rfl rfl dX5_countDuplicate_66 ?_
    refine g_iconst X (pc := 67) (v := 1) dX5_countDuplicate_67 (by decide) ?_
    obtain ⟨M7, eM7, h⟩ := bd h
    refine g_putZ X (pc := 68) fk_5_7 rfl rfl rfl eM7 tb_920 (Or.inl rfl) dX5_countDuplicate_68 ?_
    refine g_iconst X (pc := 71) (v := 1) dX5_countDuplicate_71 (by decide) ?_
    obtain ⟨hz, rfl⟩ := rN_some h
    exact g_nreturn X rfl hz hE dX5_countDuplicate_72
  · have h := (if_neg hc).symm.trans h
    refine g_iconst X (pc := 44) (v := 0) dX5_countDuplicate_44 (by decide) ?_
    obtain ⟨hz, rfl⟩ := rN_some h
    exact g_nreturn X rfl hz hE dX5_countDuplicate_45
theorem wX5_countDuplicate {x : GX} {n0 sl0 : Nat} (X : Cx x cX5_countDuplicate RX5 (some .boolean) n0 sl0 2 35) {out : Int32 × Mm} (hE : Ends x n0 sl0 (some (pI out.1)) out.2) (hn : xn x = 2) (fu : Nat)   (a0 : Nat) (a1 : Int32)  (M : Mm) (h : fX5_countDuplicate fu  a0 a1 M = some out) : Gw x M 0 [(0, pR (some a0)), (1, pI a1)] [] := by
  unfold fX5_countDuplicate at h
  refine g_aload_n X (pc := 0) 0 rfl rfl dX5_countDuplicate_0 ?_
  refine g_dup X (pc := 1) rfl dX5_countDuplicate_1 ?_
  obtain ⟨v1, ev1, h⟩ := bd h
  refine g_getI X (pc := 2) fk_5_6 rfl rfl ev1 tb_917 dX5_countDuplicate_2 ?_
  refine g_iconst X (pc := 5) (v := 1) dX5_countDuplicate_5 (by decide) ?_
  refine g_iadd X (pc := 6) dX5_countDuplicate_6 ?_
  obtain ⟨M2, eM2, h⟩ := bd h
  refine g_putI X (pc := 7) fk_5_6 rfl rfl rfl eM2 tb_917 (Or.inl rfl) dX5_countDuplicate_7 ?_
  refine g_aload_n X (pc := 10) 0 rfl rfl dX5_countDuplicate_10 ?_
  obtain ⟨v3, ev3, h⟩ := bd h
  refine g_getI X (pc := 11) fk_5_6 rfl rfl ev3 tb_917 dX5_countDuplicate_11 ?_
  refine g_iconst X (pc := 14) (v := 3) dX5_countDuplicate_14 (by decide) ?_
  refine g_icmp_le X (pc := 15) (tgt := 36) dX5_countDuplicate_15 (by decide) (fun hc => ?_) (fun hc => ?_)
  · have h := (if_pos hc).symm.trans h
    exact wX5_countDuplicate_L36 X hE hn fu   a0 a1 M2 h
  · have h := (if_neg hc).symm.trans h
    refine g_aload_n X (pc := 18) 0 rfl rfl dX5_countDuplicate_18 ?_
    refine g_ldc X (pc := 19) tb_1066 dX5_countDuplicate_19 ?_
    refine g_aload_n X (pc := 21) 0 rfl rfl dX5_countDuplicate_21 ?_
    obtain ⟨v4, ev4, h⟩ := bd h
    refine g_getI X (pc := 22) fk_5_1 rfl rfl ev4 tb_903 dX5_countDuplicate_22 ?_
    refine g_aload_n X (pc := 25) 0 rfl rfl dX5_countDuplicate_25 ?_
    obtain ⟨v5, ev5, h⟩ := bd h
    refine g_getI X (pc := 26) fk_5_0 rfl rfl ev5 tb_901 dX5_countDuplicate_26 ?_
    refine g_iadd X (pc := 29) dX5_countDuplicate_29 ?_
    refine g_mmin X (pc := 30) tb_662 tb_348 tb_13 tb_349 ⟨by decide, Nat.le_of_ble_eq_true rfl⟩ dX5_countDuplicate_30 ?_
    obtain ⟨M6, eM6, h⟩ := bd h
    refine g_putI X (pc := 33) fk_5_1 rfl rfl rfl eM6 tb_903 (Or.inl rfl) dX5_countDuplicate_33 ?_
    exact wX5_countDuplicate_L36 X hE hn fu   a0 a1 M6 h
theorem hyX5_countDuplicate : yX5_countDuplicate.cls ≠ "java/lang/invoke/MethodHandle" ∧ yX5_countDuplicate.cls ≠ "java/lang/invoke/VarHandle" ∧ (parseMethodDescriptor yX5_countDuplicate.desc).map (fun d => d.parameters.length) = some 1 := ⟨by decide +kernel, by decide +kernel, by decide +kernel⟩
theorem ctX5_countDuplicate (l : Launch) (E : Nat → Nat) (D : va_G) (dA : Nat → ClassId) (lo : Nat) (H0 : Heap) (fu : Nat) (a0 : Nat) (a1 : Int32) (M : Mm) (out : Int32 × Mm) (h : fX5_countDuplicate fu a0 a1 M = some out) : Ct l E D dA lo H0 yX5_countDuplicate cX5_countDuplicate 2 (some .boolean) 2 35 [pR (some a0), pI a1] M (some (pI out.1)) out.2 := by
  refine ct_of (by decide +kernel) (Nat.le_of_ble_eq_true rfl) ?_
  intro x hl he hd ha ho hh hn hin X hE
  exact wX5_countDuplicate X hE hn fu a0 a1 M h
/-! WebHost$Pace.backOff()V -/
def fX5_backOff (fu : Nat)  (a0 : Nat)  (M : Mm) : Option (Mm) :=
    (gI M 5 320 (some a0)).bind fun v1 =>
    (pF M 5 321 (some a0) v1).bind fun M2 =>
    (pZ M2 5 327 (some a0) (0 : Int32)).bind fun M3 =>
    (pF M3 5 326 (some a0) (0 : Int32)).bind fun M4 =>
    (gI M4 5 323 (some a0)).bind fun v5 =>
    (pF M4 5 323 (some a0) (jmin (60000 : Int32) ((2 : Int32) * v5))).bind fun M6 =>
    some M6
theorem dX5_backOff_0 : decode cX5_backOff 0 = .ok (.aload_n 0, 1) := by decide +kernel
theorem dX5_backOff_1 : decode cX5_backOff 1 = .ok (.aload_n 0, 1) := by decide +kernel
theorem dX5_backOff_2 : decode cX5_backOff 2 = .ok (.getfield 9, 3) := by decide +kernel
theorem dX5_backOff_5 : decode cX5_backOff 5 = .ok (.putfield 15, 3) := by decide +kernel
theorem dX5_backOff_8 : decode cX5_backOff 8 = .ok (.aload_n 0, 1) := by decide +kernel
theorem dX5_backOff_9 : decode cX5_backOff 9 = .ok (.iconst 0, 1) := by decide +kernel
theorem dX5_backOff_10 : decode cX5_backOff 10 = .ok (.putfield 35, 3) := by decide +kernel
theorem dX5_backOff_13 : decode cX5_backOff 13 = .ok (.aload_n 0, 1) := by decide +kernel
theorem dX5_backOff_14 : decode cX5_backOff 14 = .ok (.iconst 0, 1) := by decide +kernel
theorem dX5_backOff_15 : decode cX5_backOff 15 = .ok (.putfield 32, 3) := by decide +kernel
theorem dX5_backOff_18 : decode cX5_backOff 18 = .ok (.aload_n 0, 1) := by decide +kernel
theorem dX5_backOff_19 : decode cX5_backOff 19 = .ok (.ldc 63, 2) := by decide +kernel
theorem dX5_backOff_21 : decode cX5_backOff 21 = .ok (.iconst 2, 1) := by decide +kernel
theorem dX5_backOff_22 : decode cX5_backOff 22 = .ok (.aload_n 0, 1) := by decide +kernel
theorem dX5_backOff_23 : decode cX5_backOff 23 = .ok (.getfield 22, 3) := by decide +kernel
theorem dX5_backOff_26 : decode cX5_backOff 26 = .ok (.imul, 1) := by decide +kernel
theorem dX5_backOff_27 : decode cX5_backOff 27 = .ok (.invokestatic 68, 3) := by decide +kernel
theorem dX5_backOff_30 : decode cX5_backOff 30 = .ok (.putfield 22, 3) := by decide +kernel
theorem dX5_backOff_33 : decode cX5_backOff 33 = .ok (.return_, 1) := by decide +kernel
theorem wX5_backOff {x : GX} {n0 sl0 : Nat} (X : Cx x cX5_backOff RX5 none n0 sl0 1 14) {out : Mm} (hE : Ends x n0 sl0 none out) (hn : xn x = 1) (fu : Nat)   (a0 : Nat)  (M : Mm) (h : fX5_backOff fu  a0 M = some out) : Gw x M 0 [(0, pR (some a0))] [] := by
  unfold fX5_backOff at h
  refine g_aload_n X (pc := 0) 0 rfl rfl dX5_backOff_0 ?_
  refine g_aload_n X (pc := 1) 0 rfl rfl dX5_backOff_1 ?_
  obtain ⟨v1, ev1, h⟩ := bd h
  refine g_getI X (pc := 2) fk_5_0 rfl rfl ev1 tb_901 dX5_backOff_2 ?_
  obtain ⟨M2, eM2, h⟩ := bd h
  refine g_putI X (pc := 5) fk_5_1 rfl rfl rfl eM2 tb_903 (Or.inl rfl) dX5_backOff_5 ?_
  refine g_aload_n X (pc := 8) 0 rfl rfl dX5_backOff_8 ?_
  refine g_iconst X (pc := 9) (v := 0) dX5_backOff_9 (by decide) ?_
  obtain ⟨M3, eM3, h⟩ := bd h
  refine g_putZ X (pc := 10) fk_5_7 rfl rfl rfl eM3 tb_920 (Or.inl rfl) dX5_backOff_10 ?_
  refine g_aload_n X (pc := 13) 0 rfl rfl dX5_backOff_13 ?_
  refine g_iconst X (pc := 14) (v := 0) dX5_backOff_14 (by decide) ?_
  obtain ⟨M4, eM4, h⟩ := bd h
  refine g_putI X (pc := 15) fk_5_6 rfl rfl rfl eM4 tb_917 (Or.inl rfl) dX5_backOff_15 ?_
  refine g_aload_n X (pc := 18) 0 rfl rfl dX5_backOff_18 ?_
  refine g_ldc X (pc := 19) tb_661 dX5_backOff_19 ?_
  refine g_iconst X (pc := 21) (v := 2) dX5_backOff_21 (by decide) ?_
  refine g_aload_n X (pc := 22) 0 rfl rfl dX5_backOff_22 ?_
  obtain ⟨v5, ev5, h⟩ := bd h
  refine g_getI X (pc := 23) fk_5_3 rfl rfl ev5 tb_907 dX5_backOff_23 ?_
  refine g_imul X (pc := 26) dX5_backOff_26 ?_
  refine g_mmin X (pc := 27) tb_662 tb_348 tb_13 tb_349 ⟨by decide, Nat.le_of_ble_eq_true rfl⟩ dX5_backOff_27 ?_
  obtain ⟨M6, eM6, h⟩ := bd h
  refine g_putI X (pc := 30) fk_5_3 rfl rfl rfl eM6 tb_907 (Or.inl rfl) dX5_backOff_30 ?_
  obtain rfl := Option.some.inj h
  exact g_return X hE dX5_backOff_33
theorem hyX5_backOff : yX5_backOff.cls ≠ "java/lang/invoke/MethodHandle" ∧ yX5_backOff.cls ≠ "java/lang/invoke/VarHandle" ∧ (parseMethodDescriptor yX5_backOff.desc).map (fun d => d.parameters.length) = some 0 := ⟨by decide +kernel, by decide +kernel, by decide +kernel⟩
theorem ctX5_backOff (l : Launch) (E : Nat → Nat) (D : va_G) (dA : Nat → ClassId) (lo : Nat) (H0 : Heap) (fu : Nat) (a0 : Nat) (M : Mm) (out : Mm) (h : fX5_backOff fu a0 M = some out) : Ct l E D dA lo H0 yX5_backOff cX5_backOff 1 none 1 14 [pR (some a0)] M none out := by
  refine ct_of (by decide +kernel) (Nat.le_of_ble_eq_true rfl) ?_
  intro x hl he hd ha ho hh hn hin X hE
  exact wX5_backOff X hE hn fu a0 M h
/-! WebHost$Requests.<init>(LWebHost$Store;LWebHost$Wire;)V -/
def fX7_init (fu : Nat)  (a0 : Nat) (a1 : Option Nat) (a2 : Option Nat)  (M : Mm) : Option (Mm) :=
    (pG M 7 448 (some a0) a1).bind fun M1 =>
    (pG M1 7 449 (some a0) a2).bind fun M2 =>
    b2 (mkA M2 100 (4096 : Int32)) fun v3 M4 =>
    (pG M4 7 450 (some a0) (some v3)).bind fun M5 =>
    b2 (mkA M5 100 (48 : Int32)) fun v6 M7 =>
    (pG M7 7 451 (some a0) (some v6)).bind fun M8 =>
    some M8
theorem dX7_init_0 : decode cX7_init 0 = .ok (.aload_n 0, 1) := by decide +kernel
theorem dX7_init_1 : decode cX7_init 1 = .ok (.invokespecial 3, 3) := by decide +kernel
theorem dX7_init_4 : decode cX7_init 4 = .ok (.aload_n 0, 1) := by decide +kernel
theorem dX7_init_5 : decode cX7_init 5 = .ok (.aload_n 1, 1) := by decide +kernel
theorem dX7_init_6 : decode cX7_init 6 = .ok (.putfield 9, 3) := by decide +kernel
theorem dX7_init_9 : decode cX7_init 9 = .ok (.aload_n 0, 1) := by decide +kernel
theorem dX7_init_10 : decode cX7_init 10 = .ok (.aload_n 2, 1) := by decide +kernel
theorem dX7_init_11 : decode cX7_init 11 = .ok (.putfield 15, 3) := by decide +kernel
theorem dX7_init_14 : decode cX7_init 14 = .ok (.aload_n 0, 1) := by decide +kernel
theorem dX7_init_15 : decode cX7_init 15 = .ok (.sipush 4096, 3) := by decide +kernel
theorem dX7_init_18 : decode cX7_init 18 = .ok (.newarray .byte, 2) := by decide +kernel
theorem dX7_init_20 : decode cX7_init 20 = .ok (.putfield 21, 3) := by decide +kernel
theorem dX7_init_23 : decode cX7_init 23 = .ok (.aload_n 0, 1) := by decide +kernel
theorem dX7_init_24 : decode cX7_init 24 = .ok (.bipush 48, 2) := by decide +kernel
theorem dX7_init_26 : decode cX7_init 26 = .ok (.newarray .byte, 2) := by decide +kernel
theorem dX7_init_28 : decode cX7_init 28 = .ok (.putfield 25, 3) := by decide +kernel
theorem dX7_init_31 : decode cX7_init 31 = .ok (.return_, 1) := by decide +kernel
theorem wX7_init {x : GX} {n0 sl0 : Nat} (X : Cx x cX7_init RX7 none n0 sl0 1 12) {out : Mm} (hE : Ends x n0 sl0 none out) (hn : xn x = 3) (hin : (xt x).name = "<init>") (fu : Nat)   (a0 : Nat) (a1 : Option Nat) (a2 : Option Nat)  (M : Mm) (h : fX7_init fu  a0 a1 a2 M = some out) : Gw x M 0 [(0, pR (some a0)), (1, pR a1), (2, pR a2)] [] := by
  unfold fX7_init at h
  refine g_aload_n X (pc := 0) 0 rfl rfl dX7_init_0 ?_
  refine g_objInit X (pc := 1) (o := (some a0)) ⟨_, rfl⟩ tb_255 tb_32 tb_33 ⟨by decide, Nat.le_of_ble_eq_true rfl⟩ dX7_init_1 ?_
  refine g_aload_n X (pc := 4) 0 rfl rfl dX7_init_4 ?_
  refine g_aload_n X (pc := 5) 1 rfl rfl dX7_init_5 ?_
  obtain ⟨M1, eM1, h⟩ := bd h
  refine g_putG X (pc := 6) fk_7_0 rfl rfl rfl eM1 tb_256 (Or.inr ⟨rfl, hin, rfl⟩) dX7_init_6 ?_
  refine g_aload_n X (pc := 9) 0 rfl rfl dX7_init_9 ?_
  refine g_aload_n X (pc := 10) 2 rfl rfl dX7_init_10 ?_
  obtain ⟨M2, eM2, h⟩ := bd h
  refine g_putG X (pc := 11) fk_7_1 rfl rfl rfl eM2 tb_257 (Or.inr ⟨rfl, hin, rfl⟩) dX7_init_11 ?_
  refine g_aload_n X (pc := 14) 0 rfl rfl dX7_init_14 ?_
  refine g_sipush X (pc := 15) (v := 4096) dX7_init_15 (by decide) ?_
  obtain ⟨v3, M4, eM4, h⟩ := b2d h
  refine g_newarray X (pc := 18) (at9 := .byte) (k := 0) rfl (by decide) rfl (by decide) (fun _ _ q => q) tb_53 eM4 dX7_init_18 ?_
  obtain ⟨M5, eM5, h⟩ := bd h
  refine g_putG X (pc := 20) fk_7_2 rfl rfl rfl eM5 tb_258 (Or.inr ⟨rfl, hin, rfl⟩) dX7_init_20 ?_
  refine g_aload_n X (pc := 23) 0 rfl rfl dX7_init_23 ?_
  refine g_bipush X (pc := 24) (v := 48) dX7_init_24 (by decide) ?_
  obtain ⟨v6, M7, eM7, h⟩ := b2d h
  refine g_newarray X (pc := 26) (at9 := .byte) (k := 0) rfl (by decide) rfl (by decide) (fun _ _ q => q) tb_53 eM7 dX7_init_26 ?_
  obtain ⟨M8, eM8, h⟩ := bd h
  refine g_putG X (pc := 28) fk_7_3 rfl rfl rfl eM8 tb_259 (Or.inr ⟨rfl, hin, rfl⟩) dX7_init_28 ?_
  obtain rfl := Option.some.inj h
  exact g_return X hE dX7_init_31
theorem hyX7_init : yX7_init.cls ≠ "java/lang/invoke/MethodHandle" ∧ yX7_init.cls ≠ "java/lang/invoke/VarHandle" ∧ (parseMethodDescriptor yX7_init.desc).map (fun d => d.parameters.length) = some 2 := ⟨by decide +kernel, by decide +kernel, by decide +kernel⟩
theorem ctX7_init (l : Launch) (E : Nat → Nat) (D : va_G) (dA : Nat → ClassId) (lo : Nat) (H0 : Heap) (fu : Nat) (a0 : Nat) (a1 : Option Nat) (a2 : Option Nat) (M : Mm) (out : Mm) (h : fX7_init fu a0 a1 a2 M = some out) : Ct l E D dA lo H0 yX7_init cX7_init 3 none 1 12 [pR (some a0), pR a1, pR a2] M none out := by
  refine ct_of (by decide +kernel) (Nat.le_of_ble_eq_true rfl) ?_
  intro x hl he hd ha ho hh hn hin X hE
  exact wX7_init X hE hn hin fu a0 a1 a2 M h
/-! WebHost$Requests.emptyLines(LWebHost$Came;)I -/
def fX7_emptyLines_L7 (fu : Nat)  : Nat → Option Nat → Int32 → Int32 → Mm → Option (Int32 × Mm)
  | 0, _, _, _, _ => none
  | n + 1, a0, a1, a2, M =>
    if a1 ≤ a2 then (
    some (a2, M))
    else (
    (rc M 0 a0).bind fun q1 =>
    b2 (fX0_peek fu q1 a2 M) fun v3 M2 =>
    if v3 = (10 : Int32) then (
    fX7_emptyLines_L7 fu  n a0 a1 (a2 + (1 : Int32)) M2)
    else (
    (rc M2 0 a0).bind fun q4 =>
    b2 (fX0_peek fu q4 a2 M2) fun v6 M5 =>
    if v6 = (13 : Int32) then (
    if a1 ≤ (a2 + (1 : Int32)) then (
    some (a2, M5))
    else (
    (rc M5 0 a0).bind fun q7 =>
    b2 (fX0_peek fu q7 (a2 + (1 : Int32)) M5) fun v9 M8 =>
    if v9 = (10 : Int32) then (
    fX7_emptyLines_L7 fu  n a0 a1 (a2 + (2 : Int32)) M8)
    else (
    some (a2, M8))))
    else (
    some (a2, M5))))
def fX7_emptyLines (fu : Nat)  (a0 : Option Nat)  (M : Mm) : Option (Int32 × Mm) :=
    (rc M 0 a0).bind fun q1 =>
    b2 (fX0_held fu q1  M) fun v3 M2 =>
    fX7_emptyLines_L7 fu  fu a0 v3 (0 : Int32) M2
theorem dX7_emptyLines_0 : decode cX7_emptyLines 0 = .ok (.aload_n 0, 1) := by decide +kernel
theorem dX7_emptyLines_1 : decode cX7_emptyLines 1 = .ok (.invokevirtual 71, 3) := by decide +kernel
theorem dX7_emptyLines_4 : decode cX7_emptyLines 4 = .ok (.istore_n 1, 1) := by decide +kernel
theorem dX7_emptyLines_5 : decode cX7_emptyLines 5 = .ok (.iconst 0, 1) := by decide +kernel
theorem dX7_emptyLines_6 : decode cX7_emptyLines 6 = .ok (.istore_n 2, 1) := by decide +kernel
theorem dX7_emptyLines_7 : decode cX7_emptyLines 7 = .ok (.iload_n 2, 1) := by decide +kernel
theorem dX7_emptyLines_8 : decode cX7_emptyLines 8 = .ok (.iload_n 1, 1) := by decide +kernel
theorem dX7_emptyLines_9 : decode cX7_emptyLines 9 = .ok (.if_icmp .ge 54, 3) := by decide +kernel
theorem dX7_emptyLines_12 : decode cX7_emptyLines 12 = .ok (.aload_n 0, 1) := by decide +kernel
theorem dX7_emptyLines_13 : decode cX7_emptyLines 13 = .ok (.iload_n 2, 1) := by decide +kernel
theorem dX7_emptyLines_14 : decode cX7_emptyLines 14 = .ok (.invokevirtual 85, 3) := by decide +kernel
theorem dX7_emptyLines_17 : decode cX7_emptyLines 17 = .ok (.bipush 10, 2) := by decide +kernel
theorem dX7_emptyLines_19 : decode cX7_emptyLines 19 = .ok (.if_icmp .ne 9, 3) := by decide +kernel
theorem dX7_emptyLines_22 : decode cX7_emptyLines 22 = .ok (.iinc 2 1, 3) := by decide +kernel
theorem dX7_emptyLines_25 : decode cX7_emptyLines 25 = .ok (.goto (-18), 3) := by decide +kernel
theorem dX7_emptyLines_28 : decode cX7_emptyLines 28 = .ok (.aload_n 0, 1) := by decide +kernel
theorem dX7_emptyLines_29 : decode cX7_emptyLines 29 = .ok (.iload_n 2, 1) := by decide +kernel
theorem dX7_emptyLines_30 : decode cX7_emptyLines 30 = .ok (.invokevirtual 85, 3) := by decide +kernel
theorem dX7_emptyLines_33 : decode cX7_emptyLines 33 = .ok (.bipush 13, 2) := by decide +kernel
theorem dX7_emptyLines_35 : decode cX7_emptyLines 35 = .ok (.if_icmp .ne 28, 3) := by decide +kernel
theorem dX7_emptyLines_38 : decode cX7_emptyLines 38 = .ok (.iload_n 2, 1) := by decide +kernel
theorem dX7_emptyLines_39 : decode cX7_emptyLines 39 = .ok (.iconst 1, 1) := by decide +kernel
theorem dX7_emptyLines_40 : decode cX7_emptyLines 40 = .ok (.iadd, 1) := by decide +kernel
theorem dX7_emptyLines_41 : decode cX7_emptyLines 41 = .ok (.iload_n 1, 1) := by decide +kernel
theorem dX7_emptyLines_42 : decode cX7_emptyLines 42 = .ok (.if_icmp .ge 21, 3) := by decide +kernel
theorem dX7_emptyLines_45 : decode cX7_emptyLines 45 = .ok (.aload_n 0, 1) := by decide +kernel
theorem dX7_emptyLines_46 : decode cX7_emptyLines 46 = .ok (.iload_n 2, 1) := by decide +kernel
theorem dX7_emptyLines_47 : decode cX7_emptyLines 47 = .ok (.iconst 1, 1) := by decide +kernel
theorem dX7_emptyLines_48 : decode cX7_emptyLines 48 = .ok (.iadd, 1) := by decide +kernel
theorem dX7_emptyLines_49 : decode cX7_emptyLines 49 = .ok (.invokevirtual 85, 3) := by decide +kernel
theorem dX7_emptyLines_52 : decode cX7_emptyLines 52 = .ok (.bipush 10, 2) := by decide +kernel
theorem dX7_emptyLines_54 : decode cX7_emptyLines 54 = .ok (.if_icmp .ne 9, 3) := by decide +kernel
theorem dX7_emptyLines_57 : decode cX7_emptyLines 57 = .ok (.iinc 2 2, 3) := by decide +kernel
theorem dX7_emptyLines_60 : decode cX7_emptyLines 60 = .ok (.goto (-53), 3) := by decide +kernel
theorem dX7_emptyLines_63 : decode cX7_emptyLines 63 = .ok (.iload_n 2, 1) := by decide +kernel
theorem dX7_emptyLines_64 : decode cX7_emptyLines 64 = .ok (.ireturn, 1) := by decide +kernel
theorem wX7_emptyLines_L7 {x : GX} {n0 sl0 : Nat} (X : Cx x cX7_emptyLines RX7 (some .int) n0 sl0 1 21) {out : Int32 × Mm} (hE : Ends x n0 sl0 (some (pI out.1)) out.2) (hn : xn x = 3) (fu : Nat)   : ∀ (n : Nat) (a0 : Option Nat) (a1 : Int32) (a2 : Int32)  (M : Mm), fX7_emptyLines_L7 fu  n a0 a1 a2 M = some out → Gw x M 7 [(0, pR a0), (1, pI a1), (2, pI a2)] [] := by
  intro n
  induction n with
  | zero =>
    intro a0 a1 a2 M h
    have h : (none : Option (Int32 × Mm)) = some out := h
    cases h
  | succ n ih =>
    intro a0 a1 a2 M h
    rw [fX7_emptyLines_L7] at h
    refine g_iload_n X (pc := 7) 2 rfl rfl dX7_emptyLines_7 ?_
    refine g_iload_n X (pc := 8) 1 rfl rfl dX7_emptyLines_8 ?_
    refine g_icmp_ge X (pc := 9) (tgt := 63) dX7_emptyLines_9 (by decide) (fun hc => ?_) (fun hc => ?_)
    · have h := (if_pos hc).symm.trans h
      refine g_iload_n X (pc := 63) 2 rfl rfl dX7_emptyLines_63 ?_
      obtain rfl := Option.some.inj h
      exact g_ireturn X hE dX7_emptyLines_64
    · have h := (if_neg hc).symm.trans h
      refine g_aload_n X (pc := 12) 0 rfl rfl dX7_emptyLines_12 ?_
      refine g_iload_n X (pc := 13) 2 rfl rfl dX7_emptyLines_13 ?_
      obtain ⟨q1, eq1, h⟩ := bd h
      obtain ⟨v3, M2, eM2, h⟩ := b2d h
      refine g_callV X (pc := 14) (M' := M2) (ro := some (pI v3)) (c := 0) rfl (by decide) (as := [pI a2]) (as' := [pI a2]) (st := []) eq1 (ctX0_peek _ _ _ _ _ _ fu q1 a2 M _ eM2) tb_1182 tb_1179 tb_1180 tb_1181 tb_19 ⟨rfl, hyX0_peek⟩ rfl rfl ⟨by decide, by decide⟩ (Nat.le_of_ble_eq_true rfl) dX7_emptyLines_14 ?_
      refine g_bipush X (pc := 17) (v := 10) dX7_emptyLines_17 (by decide) ?_
      refine g_icmp_ne X (pc := 19) (tgt := 28) dX7_emptyLines_19 (by decide) (fun hc => ?_) (fun hc => ?_)
      · have h := (if_neg hc).symm.trans h
        refine g_aload_n X (pc := 28) 0 rfl rfl dX7_emptyLines_28 ?_
        refine g_iload_n X (pc := 29) 2 rfl rfl dX7_emptyLines_29 ?_
        obtain ⟨q4, eq4, h⟩ := bd h
        obtain ⟨v6, M5, eM5, h⟩ := b2d h
        refine g_callV X (pc := 30) (M' := M5) (ro := some (pI v6)) (c := 0) rfl (by decide) (as := [pI a2]) (as' := [pI a2]) (st := []) eq4 (ctX0_peek _ _ _ _ _ _ fu q4 a2 M2 _ eM5) tb_1182 tb_1179 tb_1180 tb_1181 tb_19 ⟨rfl, hyX0_peek⟩ rfl rfl ⟨by decide, by decide⟩ (Nat.le_of_ble_eq_true rfl) dX7_emptyLines_30 ?_
        refine g_bipush X (pc := 33) (v := 13) dX7_emptyLines_33 (by decide) ?_
        refine g_icmp_ne X (pc := 35) (tgt := 63) dX7_emptyLines_35 (by decide) (fun hc => ?_) (fun hc => ?_)
        · have h := (if_neg hc).symm.trans h
          refine g_iload_n X (pc := 63) 2 rfl rfl dX7_emptyLines_63 ?_
          obtain rfl := Option.some.inj h
          exact g_ireturn X hE dX7_emptyLines_64
        · have h := (if_pos hc).symm.trans h
          refine g_iload_n X (pc := 38) 2 rfl rfl dX7_emptyLines_38 ?_
          refine g_iconst X (pc := 39) (v := 1) dX7_emptyLines_39 (by decide) ?_
          refine g_iadd X (pc := 40) dX7_emptyLines_40 ?_
          refine g_iload_n X (pc := 41) 1 rfl rfl dX7_emptyLines_41 ?_
          refine g_icmp_ge X (pc := 42) (tgt := 63) dX7_emptyLines_42 (by decide) (fun hc => ?_) (fun hc => ?_)
          · have h := (if_pos hc).symm.trans h
            refine g_iload_n X (pc := 63) 2 rfl rfl dX7_emptyLines_63 ?_
            obtain rfl := Option.some.inj h
            exact g_ireturn X hE dX7_emptyLines_64
          · have h := (if_neg hc).symm.trans h
            refine g_aload_n X (pc := 45) 0 rfl rfl dX7_emptyLines_45 ?_
            refine g_iload_n X (pc := 46) 2 rfl rfl dX7_emptyLines_46 ?_
            refine g_iconst X (pc := 47) (v := 1) dX7_emptyLines_47 (by decide) ?_
            refine g_iadd X (pc := 48) dX7_emptyLines_48 ?_
            obtain ⟨q7, eq7, h⟩ := bd h
            obtain ⟨v9, M8, eM8, h⟩ := b2d h
            refine g_callV X (pc := 49) (M' := M8) (ro := some (pI v9)) (c := 0) rfl (by decide) (as := [pI (a2 + (1 : Int32))]) (as' := [pI (a2 + (1 : Int32))]) (st := []) eq7 (ctX0_peek _ _ _ _ _ _ fu q7 (a2 + (1 : Int32)) M5 _ eM8) tb_1182 tb_1179 tb_1180 tb_1181 tb_19 ⟨rfl, hyX0_peek⟩ rfl rfl ⟨by decide, by decide⟩ (Nat.le_of_ble_eq_true rfl) dX7_emptyLines_49 ?_
            refine g_bipush X (pc := 52) (v := 10) dX7_emptyLines_52 (by decide) ?_
            refine g_icmp_ne X (pc := 54) (tgt := 63) dX7_emptyLines_54 (by decide) (fun hc => ?_) (fun hc => ?_)
            · have h := (if_neg hc).symm.trans h
              refine g_iload_n X (pc := 63) 2 rfl rfl dX7_emptyLines_63 ?_
              obtain rfl := Option.some.inj h
              exact g_ireturn X hE dX7_emptyLines_64
            · have h := (if_pos hc).symm.trans h
              refine g_iinc X (pc := 57) 2 [(2, pI (a2 + (2 : Int32))), (0, pR a0), (1, pI a1)] rfl (iinc_e (by decide)) (lt_n hn (by decide)) rfl dX7_emptyLines_57 ?_
              refine g_goto X (pc := 60) (tgt := 7) dX7_emptyLines_60 (by decide) ?_
              refine g_sub [1, 2, 0] [(0, pR a0), (1, pI a1), (2, pI (a2 + (2 : Int32)))] rfl ?_
              exact ih a0 a1 (a2 + (2 : Int32)) M8 h
      · have h := (if_pos hc).symm.trans h
        refine g_iinc X (pc := 22) 2 [(2, pI (a2 + (1 : Int32))), (0, pR a0), (1, pI a1)] rfl (iinc_e (by decide)) (lt_n hn (by decide)) rfl dX7_emptyLines_22 ?_
        refine g_goto X (pc := 25) (tgt := 7) dX7_emptyLines_25 (by decide) ?_
        refine g_sub [1, 2, 0] [(0, pR a0), (1, pI a1), (2, pI (a2 + (1 : Int32)))] rfl ?_
        exact ih a0 a1 (a2 + (1 : Int32)) M2 h
theorem wX7_emptyLines {x : GX} {n0 sl0 : Nat} (X : Cx x cX7_emptyLines RX7 (some .int) n0 sl0 1 21) {out : Int32 × Mm} (hE : Ends x n0 sl0 (some (pI out.1)) out.2) (hn : xn x = 3) (fu : Nat)   (a0 : Option Nat)  (M : Mm) (h : fX7_emptyLines fu  a0 M = some out) : Gw x M 0 [(0, pR a0)] [] := by
  unfold fX7_emptyLines at h
  refine g_aload_n X (pc := 0) 0 rfl rfl dX7_emptyLines_0 ?_
  obtain ⟨q1, eq1, h⟩ := bd h
  obtain ⟨v3, M2, eM2, h⟩ := b2d h
  refine g_callV X (pc := 1) (M' := M2) (ro := some (pI v3)) (c := 0) rfl (by decide) (as := []) (as' := []) (st := []) eq1 (ctX0_held _ _ _ _ _ _ fu q1  M _ eM2) tb_605 tb_1178 tb_603 tb_604 tb_19 ⟨rfl, hyX0_held⟩ rfl rfl ⟨by decide, by decide⟩ (Nat.le_of_ble_eq_true rfl) dX7_emptyLines_1 ?_
  refine g_istore_n X (pc := 4) [(1, pI v3), (0, pR a0)] rfl (lt_n hn (by decide)) rfl dX7_emptyLines_4 ?_
  refine g_iconst X (pc := 5) (v := 0) dX7_emptyLines_5 (by decide) ?_
  refine g_istore_n X (pc := 6) [(2, pI (0 : Int32)), (1, pI v3), (0, pR a0)] rfl (lt_n hn (by decide)) rfl dX7_emptyLines_6 ?_
  refine g_sub [2, 1, 0] [(0, pR a0), (1, pI v3), (2, pI (0 : Int32))] rfl ?_
  exact wX7_emptyLines_L7 X hE hn fu   fu a0 v3 (0 : Int32) M2 h
theorem hyX7_emptyLines : yX7_emptyLines.cls ≠ "java/lang/invoke/MethodHandle" ∧ yX7_emptyLines.cls ≠ "java/lang/invoke/VarHandle" ∧ (parseMethodDescriptor yX7_emptyLines.desc).map (fun d => d.parameters.length) = some 1 := ⟨by decide +kernel, by decide +kernel, by decide +kernel⟩
theorem ctX7_emptyLines (l : Launch) (E : Nat → Nat) (D : va_G) (dA : Nat → ClassId) (lo : Nat) (H0 : Heap) (fu : Nat) (a0 : Option Nat) (M : Mm) (out : Int32 × Mm) (h : fX7_emptyLines fu a0 M = some out) : Ct l E D dA lo H0 yX7_emptyLines cX7_emptyLines 3 (some .int) 1 21 [pR a0] M (some (pI out.1)) out.2 := by
  refine ct_of (by decide +kernel) (Nat.le_of_ble_eq_true rfl) ?_
  intro x hl he hd ha ho hh hn hin X hE
  exact wX7_emptyLines X hE hn fu a0 M h
/-! WebHost$Requests.lineEnd(II)I -/
def fX7_lineEnd (fu : Nat)  (a0 : Nat) (a1 : Int32) (a2 : Int32)  (M : Mm) : Option (Int32 × Mm) :=
    if a2 ≤ a1 then (
    some (a2, M))
    else (
    (gR M 7 450 (some a0)).bind fun v1 =>
    b2 (fX11_one fu  v1 (a2 - (1 : Int32)) M) fun v3 M2 =>
    if v3 = (13 : Int32) then (
    some ((a2 - (1 : Int32)), M2))
    else (
    some (a2, M2)))
theorem dX7_lineEnd_0 : decode cX7_lineEnd 0 = .ok (.iload_n 2, 1) := by decide +kernel
theorem dX7_lineEnd_1 : decode cX7_lineEnd 1 = .ok (.iload_n 1, 1) := by decide +kernel
theorem dX7_lineEnd_2 : decode cX7_lineEnd 2 = .ok (.if_icmp .le 24, 3) := by decide +kernel
theorem dX7_lineEnd_5 : decode cX7_lineEnd 5 = .ok (.aload_n 0, 1) := by decide +kernel
theorem dX7_lineEnd_6 : decode cX7_lineEnd 6 = .ok (.getfield 21, 3) := by decide +kernel
theorem dX7_lineEnd_9 : decode cX7_lineEnd 9 = .ok (.iload_n 2, 1) := by decide +kernel
theorem dX7_lineEnd_10 : decode cX7_lineEnd 10 = .ok (.iconst 1, 1) := by decide +kernel
theorem dX7_lineEnd_11 : decode cX7_lineEnd 11 = .ok (.isub, 1) := by decide +kernel
theorem dX7_lineEnd_12 : decode cX7_lineEnd 12 = .ok (.invokestatic 97, 3) := by decide +kernel
theorem dX7_lineEnd_15 : decode cX7_lineEnd 15 = .ok (.bipush 13, 2) := by decide +kernel
theorem dX7_lineEnd_17 : decode cX7_lineEnd 17 = .ok (.if_icmp .ne 9, 3) := by decide +kernel
theorem dX7_lineEnd_20 : decode cX7_lineEnd 20 = .ok (.iload_n 2, 1) := by decide +kernel
theorem dX7_lineEnd_21 : decode cX7_lineEnd 21 = .ok (.iconst 1, 1) := by decide +kernel
theorem dX7_lineEnd_22 : decode cX7_lineEnd 22 = .ok (.isub, 1) := by decide +kernel
theorem dX7_lineEnd_23 : decode cX7_lineEnd 23 = .ok (.goto 4, 3) := by decide +kernel
theorem dX7_lineEnd_26 : decode cX7_lineEnd 26 = .ok (.iload_n 2, 1) := by decide +kernel
theorem dX7_lineEnd_27 : decode cX7_lineEnd 27 = .ok (.ireturn, 1) := by decide +kernel
theorem wX7_lineEnd {x : GX} {n0 sl0 : Nat} (X : Cx x cX7_lineEnd RX7 (some .int) n0 sl0 1 21) {out : Int32 × Mm} (hE : Ends x n0 sl0 (some (pI out.1)) out.2) (hn : xn x = 3) (fu : Nat)   (a0 : Nat) (a1 : Int32) (a2 : Int32)  (M : Mm) (h : fX7_lineEnd fu  a0 a1 a2 M = some out) : Gw x M 0 [(0, pR (some a0)), (1, pI a1), (2, pI a2)] [] := by
  unfold fX7_lineEnd at h
  refine g_iload_n X (pc := 0) 2 rfl rfl dX7_lineEnd_0 ?_
  refine g_iload_n X (pc := 1) 1 rfl rfl dX7_lineEnd_1 ?_
  refine g_icmp_le X (pc := 2) (tgt := 26) dX7_lineEnd_2 (by decide) (fun hc => ?_) (fun hc => ?_)
  · have h := (if_pos hc).symm.trans h
    refine g_iload_n X (pc := 26) 2 rfl rfl dX7_lineEnd_26 ?_
    obtain rfl := Option.some.inj h
    exact g_ireturn X hE dX7_lineEnd_27
  · have h := (if_neg hc).symm.trans h
    refine g_aload_n X (pc := 5) 0 rfl rfl dX7_lineEnd_5 ?_
    obtain ⟨v1, ev1, h⟩ := bd h
    refine g_getR X (pc := 6) fk_7_2 rfl rfl ev1 tb_258 dX7_lineEnd_6 ?_
    refine g_iload_n X (pc := 9) 2 rfl rfl dX7_lineEnd_9 ?_
    refine g_iconst X (pc := 10) (v := 1) dX7_lineEnd_10 (by decide) ?_
    refine g_isub X (pc := 11) dX7_lineEnd_11 ?_
    obtain ⟨v3, M2, eM2, h⟩ := b2d h
    refine g_callSN X (pc := 12) (M' := M2) (ro := some (pI v3)) (as := [pR v1, pI (a2 - (1 : Int32))]) (as' := [pI (a2 - (1 : Int32)), pR v1]) (st := []) (ctX11_one _ _ _ _ _ _ fu  v1 (a2 - (1 : Int32)) M _ eM2) tb_415 (List.mem_of_getElem? (i := 24) rfl) tb_414 tb_1 hyX11_one rfl rfl ⟨by decide, by decide⟩ (Nat.le_of_ble_eq_true rfl) dX7_lineEnd_12 ?_
    refine g_bipush X (pc := 15) (v := 13) dX7_lineEnd_15 (by decide) ?_
    refine g_icmp_ne X (pc := 17) (tgt := 26) dX7_lineEnd_17 (by decide) (fun hc => ?_) (fun hc => ?_)
    · have h := (if_neg hc).symm.trans h
      refine g_iload_n X (pc := 26) 2 rfl rfl dX7_lineEnd_26 ?_
      obtain rfl := Option.some.inj h
      exact g_ireturn X hE dX7_lineEnd_27
    · have h := (if_pos hc).symm.trans h
      refine g_iload_n X (pc := 20) 2 rfl rfl dX7_lineEnd_20 ?_
      refine g_iconst X (pc := 21) (v := 1) dX7_lineEnd_21 (by decide) ?_
      refine g_isub X (pc := 22) dX7_lineEnd_22 ?_
      refine g_goto X (pc := 23) (tgt := 27) dX7_lineEnd_23 (by decide) ?_
      obtain rfl := Option.some.inj h
      exact g_ireturn X hE dX7_lineEnd_27
theorem hyX7_lineEnd : yX7_lineEnd.cls ≠ "java/lang/invoke/MethodHandle" ∧ yX7_lineEnd.cls ≠ "java/lang/invoke/VarHandle" ∧ (parseMethodDescriptor yX7_lineEnd.desc).map (fun d => d.parameters.length) = some 2 := ⟨by decide +kernel, by decide +kernel, by decide +kernel⟩
theorem ctX7_lineEnd (l : Launch) (E : Nat → Nat) (D : va_G) (dA : Nat → ClassId) (lo : Nat) (H0 : Heap) (fu : Nat) (a0 : Nat) (a1 : Int32) (a2 : Int32) (M : Mm) (out : Int32 × Mm) (h : fX7_lineEnd fu a0 a1 a2 M = some out) : Ct l E D dA lo H0 yX7_lineEnd cX7_lineEnd 3 (some .int) 1 21 [pR (some a0), pI a1, pI a2] M (some (pI out.1)) out.2 := by
  refine ct_of (by decide +kernel) (Nat.le_of_ble_eq_true rfl) ?_
  intro x hl he hd ha ho hh hn hin X hE
  exact wX7_lineEnd X hE hn fu a0 a1 a2 M h
/-! WebHost$Requests.copyHead(LWebHost$Came;)I -/
def fX7_copyHead_L71 (fu : Nat) (k18 : Nat → Option Nat → Int32 → Int32 → Int32 → Mm → Option (Int32 × Mm)) (a0 : Nat) (a1 : Option Nat) (a2 : Int32) (a3 : Int32) (a4 : Int32)  (M : Mm) : Option (Int32 × Mm) :=
    k18 a0 a1 a2 a3 (a4 + (1 : Int32)) M
def fX7_copyHead_L18 (fu : Nat)  : Nat → Nat → Option Nat → Int32 → Int32 → Int32 → Mm → Option (Int32 × Mm)
  | 0, _, _, _, _, _, _ => none
  | n + 1, a0, a1, a2, a3, a4, M =>
    if a2 ≤ a4 then (
    some ((0 : Int32), M))
    else (
    (gR M 7 450 (some a0)).bind fun v1 =>
    (rc M 0 a1).bind fun q2 =>
    b2 (fX0_peek fu q2 a4 M) fun v4 M3 =>
    (pA M3 100 v1 a4 (Int8.toInt32 (Int32.toInt8 (Int8.toInt32 (Int32.toInt8 v4))))).bind fun M5 =>
    (gR M5 7 450 (some a0)).bind fun v6 =>
    (gA M5 100 v6 a4).bind fun v7 =>
    if v7 = (10 : Int32) then (
    (rc M5 7 (some a0)).bind fun q8 =>
    b2 (fX7_lineEnd fu q8 a3 a4 M5) fun v10 M9 =>
    if v10 = a3 then (
    some ((a4 + (1 : Int32)), M9))
    else (
    fX7_copyHead_L71 fu (fun b0 b1 b2 b3 b4 M => fX7_copyHead_L18 fu  n b0 b1 b2 b3 b4 M) a0 a1 a2 (a4 + (1 : Int32)) a4 M9))
    else (
    fX7_copyHead_L71 fu (fun b0 b1 b2 b3 b4 M => fX7_copyHead_L18 fu  n b0 b1 b2 b3 b4 M) a0 a1 a2 a3 a4 M5))
def fX7_copyHead (fu : Nat)  (a0 : Nat) (a1 : Option Nat)  (M : Mm) : Option (Int32 × Mm) :=
    (rc M 0 a1).bind fun q1 =>
    b2 (fX0_held fu q1  M) fun v3 M2 =>
    (gR M2 7 450 (some a0)).bind fun v4 =>
    (aL M2 100 v4).bind fun v5 =>
    fX7_copyHead_L18 fu  fu a0 a1 (jmin v3 v5) (0 : Int32) (0 : Int32) M2
theorem dX7_copyHead_0 : decode cX7_copyHead 0 = .ok (.aload_n 1, 1) := by decide +kernel
theorem dX7_copyHead_1 : decode cX7_copyHead 1 = .ok (.invokevirtual 71, 3) := by decide +kernel
theorem dX7_copyHead_4 : decode cX7_copyHead 4 = .ok (.aload_n 0, 1) := by decide +kernel
theorem dX7_copyHead_5 : decode cX7_copyHead 5 = .ok (.getfield 21, 3) := by decide +kernel
theorem dX7_copyHead_8 : decode cX7_copyHead 8 = .ok (.arraylength, 1) := by decide +kernel
theorem dX7_copyHead_9 : decode cX7_copyHead 9 = .ok (.invokestatic 88, 3) := by decide +kernel
theorem dX7_copyHead_12 : decode cX7_copyHead 12 = .ok (.istore_n 2, 1) := by decide +kernel
theorem dX7_copyHead_13 : decode cX7_copyHead 13 = .ok (.iconst 0, 1) := by decide +kernel
theorem dX7_copyHead_14 : decode cX7_copyHead 14 = .ok (.istore_n 3, 1) := by decide +kernel
theorem dX7_copyHead_15 : decode cX7_copyHead 15 = .ok (.iconst 0, 1) := by decide +kernel
theorem dX7_copyHead_16 : decode cX7_copyHead 16 = .ok (.istore 4, 2) := by decide +kernel
theorem dX7_copyHead_18 : decode cX7_copyHead 18 = .ok (.iload 4, 2) := by decide +kernel
theorem dX7_copyHead_20 : decode cX7_copyHead 20 = .ok (.iload_n 2, 1) := by decide +kernel
theorem dX7_copyHead_21 : decode cX7_copyHead 21 = .ok (.if_icmp .ge 56, 3) := by decide +kernel
theorem dX7_copyHead_24 : decode cX7_copyHead 24 = .ok (.aload_n 0, 1) := by decide +kernel
theorem dX7_copyHead_25 : decode cX7_copyHead 25 = .ok (.getfield 21, 3) := by decide +kernel
theorem dX7_copyHead_28 : decode cX7_copyHead 28 = .ok (.iload 4, 2) := by decide +kernel
theorem dX7_copyHead_30 : decode cX7_copyHead 30 = .ok (.aload_n 1, 1) := by decide +kernel
theorem dX7_copyHead_31 : decode cX7_copyHead 31 = .ok (.iload 4, 2) := by decide +kernel
theorem dX7_copyHead_33 : decode cX7_copyHead 33 = .ok (.invokevirtual 85, 3) := by decide +kernel
theorem dX7_copyHead_36 : decode cX7_copyHead 36 = .ok (.i2b, 1) := by decide +kernel
theorem dX7_copyHead_37 : decode cX7_copyHead 37 = .ok (.bastore, 1) := by decide +kernel
theorem dX7_copyHead_38 : decode cX7_copyHead 38 = .ok (.aload_n 0, 1) := by decide +kernel
theorem dX7_copyHead_39 : decode cX7_copyHead 39 = .ok (.getfield 21, 3) := by decide +kernel
theorem dX7_copyHead_42 : decode cX7_copyHead 42 = .ok (.iload 4, 2) := by decide +kernel
theorem dX7_copyHead_44 : decode cX7_copyHead 44 = .ok (.baload, 1) := by decide +kernel
theorem dX7_copyHead_45 : decode cX7_copyHead 45 = .ok (.bipush 10, 2) := by decide +kernel
theorem dX7_copyHead_47 : decode cX7_copyHead 47 = .ok (.if_icmp .ne 24, 3) := by decide +kernel
theorem dX7_copyHead_50 : decode cX7_copyHead 50 = .ok (.aload_n 0, 1) := by decide +kernel
theorem dX7_copyHead_51 : decode cX7_copyHead 51 = .ok (.iload_n 3, 1) := by decide +kernel
theorem dX7_copyHead_52 : decode cX7_copyHead 52 = .ok (.iload 4, 2) := by decide +kernel
theorem dX7_copyHead_54 : decode cX7_copyHead 54 = .ok (.invokevirtual 94, 3) := by decide +kernel
theorem dX7_copyHead_57 : decode cX7_copyHead 57 = .ok (.iload_n 3, 1) := by decide +kernel
theorem dX7_copyHead_58 : decode cX7_copyHead 58 = .ok (.if_icmp .ne 8, 3) := by decide +kernel
theorem dX7_copyHead_61 : decode cX7_copyHead 61 = .ok (.iload 4, 2) := by decide +kernel
theorem dX7_copyHead_63 : decode cX7_copyHead 63 = .ok (.iconst 1, 1) := by decide +kernel
theorem dX7_copyHead_64 : decode cX7_copyHead 64 = .ok (.iadd, 1) := by decide +kernel
theorem dX7_copyHead_65 : decode cX7_copyHead 65 = .ok (.ireturn, 1) := by decide +kernel
theorem dX7_copyHead_66 : decode cX7_copyHead 66 = .ok (.iload 4, 2) := by decide +kernel
theorem dX7_copyHead_68 : decode cX7_copyHead 68 = .ok (.iconst 1, 1) := by decide +kernel
theorem dX7_copyHead_69 : decode cX7_copyHead 69 = .ok (.iadd, 1) := by decide +kernel
theorem dX7_copyHead_70 : decode cX7_copyHead 70 = .ok (.istore_n 3, 1) := by decide +kernel
theorem dX7_copyHead_71 : decode cX7_copyHead 71 = .ok (.iinc 4 1, 3) := by decide +kernel
theorem dX7_copyHead_74 : decode cX7_copyHead 74 = .ok (.goto (-56), 3) := by decide +kernel
theorem dX7_copyHead_77 : decode cX7_copyHead 77 = .ok (.iconst 0, 1) := by decide +kernel
theorem dX7_copyHead_78 : decode cX7_copyHead 78 = .ok (.ireturn, 1) := by decide +kernel
theorem wX7_copyHead_L71 {x : GX} {n0 sl0 : Nat} (X : Cx x cX7_copyHead RX7 (some .int) n0 sl0 2 43) {out : Int32 × Mm} (hE : Ends x n0 sl0 (some (pI out.1)) out.2) (hn : xn x = 5) (fu : Nat) (k18 : Nat → Option Nat → Int32 → Int32 → Int32 → Mm → Option (Int32 × Mm)) (hk18 : ∀ (b0 : Nat) (b1 : Option Nat) (b2 : Int32) (b3 : Int32) (b4 : Int32)  (M : Mm), k18 b0 b1 b2 b3 b4 M = some out → Gw x M 18 [(0, pR (some b0)), (1, pR b1), (2, pI b2), (3, pI b3), (4, pI b4)] []) (a0 : Nat) (a1 : Option Nat) (a2 : Int32) (a3 : Int32) (a4 : Int32)  (M : Mm) (h : fX7_copyHead_L71 fu k18 a0 a1 a2 a3 a4 M = some out) : Gw x M 71 [(0, pR (some a0)), (1, pR a1), (2, pI a2), (3, pI a3), (4, pI a4)] [] := by
  unfold fX7_copyHead_L71 at h
  refine g_iinc X (pc := 71) 4 [(4, pI (a4 + (1 : Int32))), (0, pR (some a0)), (1, pR a1), (2, pI a2), (3, pI a3)] rfl (iinc_e (by decide)) (lt_n hn (by decide)) rfl dX7_copyHead_71 ?_
  refine g_goto X (pc := 74) (tgt := 18) dX7_copyHead_74 (by decide) ?_
  refine g_sub [1, 2, 3, 4, 0] [(0, pR (some a0)), (1, pR a1), (2, pI a2), (3, pI a3), (4, pI (a4 + (1 : Int32)))] rfl ?_
  exact hk18 a0 a1 a2 a3 (a4 + (1 : Int32)) M h
theorem wX7_copyHead_L18 {x : GX} {n0 sl0 : Nat} (X : Cx x cX7_copyHead RX7 (some .int) n0 sl0 2 43) {out : Int32 × Mm} (hE : Ends x n0 sl0 (some (pI out.1)) out.2) (hn : xn x = 5) (fu : Nat)   : ∀ (n : Nat) (a0 : Nat) (a1 : Option Nat) (a2 : Int32) (a3 : Int32) (a4 : Int32)  (M : Mm), fX7_copyHead_L18 fu  n a0 a1 a2 a3 a4 M = some out → Gw x M 18 [(0, pR (some a0)), (1, pR a1), (2, pI a2), (3, pI a3), (4, pI a4)] [] := by
  intro n
  induction n with
  | zero =>
    intro a0 a1 a2 a3 a4 M h
    have h : (none : Option (Int32 × Mm)) = some out := h
    cases h
  | succ n ih =>
    intro a0 a1 a2 a3 a4 M h
    rw [fX7_copyHead_L18] at h
    refine g_iload X (pc := 18) 4 rfl dX7_copyHead_18 ?_
    refine g_iload_n X (pc := 20) 2 rfl rfl dX7_copyHead_20 ?_
    refine g_icmp_ge X (pc := 21) (tgt := 77) dX7_copyHead_21 (by decide) (fun hc => ?_) (fun hc => ?_)
    · have h := (if_pos hc).symm.trans h
      refine g_iconst X (pc := 77) (v := 0) dX7_copyHead_77 (by decide) ?_
      obtain rfl := Option.some.inj h
      exact g_ireturn X hE dX7_copyHead_78
    · have h := (if_neg hc).symm.trans h
      refine g_aload_n X (pc := 24) 0 rfl rfl dX7_copyHead_24 ?_
      obtain ⟨v1, ev1, h⟩ := bd h
      refine g_getR X (pc := 25) fk_7_2 rfl rfl ev1 tb_258 dX7_copyHead_25 ?_
      refine g_iload X (pc := 28) 4 rfl dX7_copyHead_28 ?_
      refine g_aload_n X (pc := 30) 1 rfl rfl dX7_copyHead_30 ?_
      refine g_iload X (pc := 31) 4 rfl dX7_copyHead_31 ?_
      obtain ⟨q2, eq2, h⟩ := bd h
      obtain ⟨v4, M3, eM3, h⟩ := b2d h
      refine g_callV X (pc := 33) (M' := M3) (ro := some (pI v4)) (c := 0) rfl (by decide) (as := [pI a4]) (as' := [pI a4]) (st := [pI a4, pR v1]) eq2 (ctX0_peek _ _ _ _ _ _ fu q2 a4 M _ eM3) tb_1182 tb_1179 tb_1180 tb_1181 tb_19 ⟨rfl, hyX0_peek⟩ rfl rfl ⟨by decide, by decide⟩ (Nat.le_of_ble_eq_true rfl) dX7_copyHead_33 ?_
      refine g_i2b X (pc := 36) dX7_copyHead_36 ?_
      obtain ⟨M5, eM5, h⟩ := bd h
      refine g_bastore X (pc := 37) eM5 dX7_copyHead_37 ?_
      refine g_aload_n X (pc := 38) 0 rfl rfl dX7_copyHead_38 ?_
      obtain ⟨v6, ev6, h⟩ := bd h
      refine g_getR X (pc := 39) fk_7_2 rfl rfl ev6 tb_258 dX7_copyHead_39 ?_
      refine g_iload X (pc := 42) 4 rfl dX7_copyHead_42 ?_
      obtain ⟨v7, ev7, h⟩ := bd h
      refine g_baload X (pc := 44) ev7 dX7_copyHead_44 ?_
      refine g_bipush X (pc := 45) (v := 10) dX7_copyHead_45 (by decide) ?_
      refine g_icmp_ne X (pc := 47) (tgt := 71) dX7_copyHead_47 (by decide) (fun hc => ?_) (fun hc => ?_)
      · have h := (if_neg hc).symm.trans h
        exact wX7_copyHead_L71 X hE hn fu (fun b0 b1 b2 b3 b4 M => fX7_copyHead_L18 fu  n b0 b1 b2 b3 b4 M) ih a0 a1 a2 a3 a4 M5 h
      · have h := (if_pos hc).symm.trans h
        refine g_aload_n X (pc := 50) 0 rfl rfl dX7_copyHead_50 ?_
        refine g_iload_n X (pc := 51) 3 rfl rfl dX7_copyHead_51 ?_
        refine g_iload X (pc := 52) 4 rfl dX7_copyHead_52 ?_
        obtain ⟨q8, eq8, h⟩ := bd h
        obtain ⟨v10, M9, eM9, h⟩ := b2d h
        refine g_callV X (pc := 54) (M' := M9) (ro := some (pI v10)) (c := 7) rfl (by decide) (as := [pI a3, pI a4]) (as' := [pI a4, pI a3]) (st := []) eq8 (ctX7_lineEnd _ _ _ _ _ _ fu q8 a3 a4 M5 _ eM9) tb_1192 tb_1189 tb_1191 ts_41 tb_7 ⟨rfl, hyX7_lineEnd⟩ rfl rfl ⟨by decide, by decide⟩ (Nat.le_of_ble_eq_true rfl) dX7_copyHead_54 ?_
        refine g_iload_n X (pc := 57) 3 rfl rfl dX7_copyHead_57 ?_
        refine g_icmp_ne X (pc := 58) (tgt := 66) dX7_copyHead_58 (by decide) (fun hc => ?_) (fun hc => ?_)
        · have h := (if_neg hc).symm.trans h
          refine g_iload X (pc := 66) 4 rfl dX7_copyHead_66 ?_
          refine g_iconst X (pc := 68) (v := 1) dX7_copyHead_68 (by decide) ?_
          refine g_iadd X (pc := 69) dX7_copyHead_69 ?_
          refine g_istore_n X (pc := 70) [(3, pI (a4 + (1 : Int32))), (0, pR (some a0)), (1, pR a1), (2, pI a2), (4, pI a4)] rfl (lt_n hn (by decide)) rfl dX7_copyHead_70 ?_
          refine g_sub [1, 2, 3, 0, 4] [(0, pR (some a0)), (1, pR a1), (2, pI a2), (3, pI (a4 + (1 : Int32))), (4, pI a4)] rfl ?_
          exact wX7_copyHead_L71 X hE hn fu (fun b0 b1 b2 b3 b4 M => fX7_copyHead_L18 fu  n b0 b1 b2 b3 b4 M) ih a0 a1 a2 (a4 + (1 : Int32)) a4 M9 h
        · have h := (if_pos hc).symm.trans h
          refine g_iload X (pc := 61) 4 rfl dX7_copyHead_61 ?_
          refine g_iconst X (pc := 63) (v := 1) dX7_copyHead_63 (by decide) ?_
          refine g_iadd X (pc := 64) dX7_copyHead_64 ?_
          obtain rfl := Option.some.inj h
          exact g_ireturn X hE dX7_copyHead_65
theorem wX7_copyHead {x : GX} {n0 sl0 : Nat} (X : Cx x cX7_copyHead RX7 (some .int) n0 sl0 2 43) {out : Int32 × Mm} (hE : Ends x n0 sl0 (some (pI out.1)) out.2) (hn : xn x = 5) (fu : Nat)   (a0 : Nat) (a1 : Option Nat)  (M : Mm) (h : fX7_copyHead fu  a0 a1 M = some out) : Gw x M 0 [(0, pR (some a0)), (1, pR a1)] [] := by
  unfold fX7_copyHead at h
  refine g_aload_n X (pc := 0) 1 rfl rfl dX7_copyHead_0 ?_
  obtain ⟨q1, eq1, h⟩ := bd h
  obtain ⟨v3, M2, eM2, h⟩ := b2d h
  refine g_callV X (pc := 1) (M' := M2) (ro := some (pI v3)) (c := 0) rfl (by decide) (as := []) (as' := []) (st := []) eq1 (ctX0_held _ _ _ _ _ _ fu q1  M _ eM2) tb_605 tb_1178 tb_603 tb_604 tb_19 ⟨rfl, hyX0_held⟩ rfl rfl ⟨by decide, by decide⟩ (Nat.le_of_ble_eq_true rfl) dX7_copyHead_1 ?_
  refine g_aload_n X (pc := 4) 0 rfl rfl dX7_copyHead_4 ?_
  obtain ⟨v4, ev4, h⟩ := bd h
  refine g_getR X (pc := 5) fk_7_2 rfl rfl ev4 tb_258 dX7_copyHead_5 ?_
  obtain ⟨v5, ev5, h⟩ := bd h
  refine g_alen X (pc := 8) (k := 0) rfl (by decide) ev5 dX7_copyHead_8 ?_
  refine g_mmin X (pc := 9) tb_1188 tb_348 tb_13 tb_349 ⟨by decide, Nat.le_of_ble_eq_true rfl⟩ dX7_copyHead_9 ?_
  refine g_istore_n X (pc := 12) [(2, pI (jmin v3 v5)), (0, pR (some a0)), (1, pR a1)] rfl (lt_n hn (by decide)) rfl dX7_copyHead_12 ?_
  refine g_iconst X (pc := 13) (v := 0) dX7_copyHead_13 (by decide) ?_
  refine g_istore_n X (pc := 14) [(3, pI (0 : Int32)), (2, pI (jmin v3 v5)), (0, pR (some a0)), (1, pR a1)] rfl (lt_n hn (by decide)) rfl dX7_copyHead_14 ?_
  refine g_iconst X (pc := 15) (v := 0) dX7_copyHead_15 (by decide) ?_
  refine g_istore X (pc := 16) [(4, pI (0 : Int32)), (3, pI (0 : Int32)), (2, pI (jmin v3 v5)), (0, pR (some a0)), (1, pR a1)] (lt_n hn (by decide)) rfl dX7_copyHead_16 ?_
  refine g_sub [3, 4, 2, 1, 0] [(0, pR (some a0)), (1, pR a1), (2, pI (jmin v3 v5)), (3, pI (0 : Int32)), (4, pI (0 : Int32))] rfl ?_
  exact wX7_copyHead_L18 X hE hn fu   fu a0 a1 (jmin v3 v5) (0 : Int32) (0 : Int32) M2 h
theorem hyX7_copyHead : yX7_copyHead.cls ≠ "java/lang/invoke/MethodHandle" ∧ yX7_copyHead.cls ≠ "java/lang/invoke/VarHandle" ∧ (parseMethodDescriptor yX7_copyHead.desc).map (fun d => d.parameters.length) = some 1 := ⟨by decide +kernel, by decide +kernel, by decide +kernel⟩
theorem ctX7_copyHead (l : Launch) (E : Nat → Nat) (D : va_G) (dA : Nat → ClassId) (lo : Nat) (H0 : Heap) (fu : Nat) (a0 : Nat) (a1 : Option Nat) (M : Mm) (out : Int32 × Mm) (h : fX7_copyHead fu a0 a1 M = some out) : Ct l E D dA lo H0 yX7_copyHead cX7_copyHead 5 (some .int) 2 43 [pR (some a0), pR a1] M (some (pI out.1)) out.2 := by
  refine ct_of (by decide +kernel) (Nat.le_of_ble_eq_true rfl) ?_
  intro x hl he hd ha ho hh hn hin X hE
  exact wX7_copyHead X hE hn fu a0 a1 M h
/-! WebHost$Requests.forget()V -/
def fX7_forget (fu : Nat)  (a0 : Nat)  (M : Mm) : Option (Mm) :=
    (pF M 7 453 (some a0) (0 : Int32)).bind fun M1 =>
    (pZ M1 7 454 (some a0) (0 : Int32)).bind fun M2 =>
    (pF M2 7 457 (some a0) (0 : Int32)).bind fun M3 =>
    (pF M3 7 458 (some a0) (0 : Int32)).bind fun M4 =>
    (pF M4 7 459 (some a0) (0 : Int32)).bind fun M5 =>
    (pF M5 7 460 (some a0) (0 : Int32)).bind fun M6 =>
    (pF M6 7 461 (some a0) (0 : Int32)).bind fun M7 =>
    (pZ M7 7 464 (some a0) (0 : Int32)).bind fun M8 =>
    (pZ M8 7 465 (some a0) (0 : Int32)).bind fun M9 =>
    (pF M9 7 466 (some a0) (-1 : Int32)).bind fun M10 =>
    some M10
theorem dX7_forget_0 : decode cX7_forget 0 = .ok (.aload_n 0, 1) := by decide +kernel
theorem dX7_forget_1 : decode cX7_forget 1 = .ok (.iconst 0, 1) := by decide +kernel
theorem dX7_forget_2 : decode cX7_forget 2 = .ok (.putfield 101, 3) := by decide +kernel
theorem dX7_forget_5 : decode cX7_forget 5 = .ok (.aload_n 0, 1) := by decide +kernel
theorem dX7_forget_6 : decode cX7_forget 6 = .ok (.iconst 0, 1) := by decide +kernel
theorem dX7_forget_7 : decode cX7_forget 7 = .ok (.putfield 104, 3) := by decide +kernel
theorem dX7_forget_10 : decode cX7_forget 10 = .ok (.aload_n 0, 1) := by decide +kernel
theorem dX7_forget_11 : decode cX7_forget 11 = .ok (.iconst 0, 1) := by decide +kernel
theorem dX7_forget_12 : decode cX7_forget 12 = .ok (.putfield 107, 3) := by decide +kernel
theorem dX7_forget_15 : decode cX7_forget 15 = .ok (.aload_n 0, 1) := by decide +kernel
theorem dX7_forget_16 : decode cX7_forget 16 = .ok (.iconst 0, 1) := by decide +kernel
theorem dX7_forget_17 : decode cX7_forget 17 = .ok (.putfield 110, 3) := by decide +kernel
theorem dX7_forget_20 : decode cX7_forget 20 = .ok (.aload_n 0, 1) := by decide +kernel
theorem dX7_forget_21 : decode cX7_forget 21 = .ok (.iconst 0, 1) := by decide +kernel
theorem dX7_forget_22 : decode cX7_forget 22 = .ok (.putfield 113, 3) := by decide +kernel
theorem dX7_forget_25 : decode cX7_forget 25 = .ok (.aload_n 0, 1) := by decide +kernel
theorem dX7_forget_26 : decode cX7_forget 26 = .ok (.iconst 0, 1) := by decide +kernel
theorem dX7_forget_27 : decode cX7_forget 27 = .ok (.putfield 64, 3) := by decide +kernel
theorem dX7_forget_30 : decode cX7_forget 30 = .ok (.aload_n 0, 1) := by decide +kernel
theorem dX7_forget_31 : decode cX7_forget 31 = .ok (.iconst 0, 1) := by decide +kernel
theorem dX7_forget_32 : decode cX7_forget 32 = .ok (.putfield 116, 3) := by decide +kernel
theorem dX7_forget_35 : decode cX7_forget 35 = .ok (.aload_n 0, 1) := by decide +kernel
theorem dX7_forget_36 : decode cX7_forget 36 = .ok (.iconst 0, 1) := by decide +kernel
theorem dX7_forget_37 : decode cX7_forget 37 = .ok (.putfield 119, 3) := by decide +kernel
theorem dX7_forget_40 : decode cX7_forget 40 = .ok (.aload_n 0, 1) := by decide +kernel
theorem dX7_forget_41 : decode cX7_forget 41 = .ok (.iconst 0, 1) := by decide +kernel
theorem dX7_forget_42 : decode cX7_forget 42 = .ok (.putfield 122, 3) := by decide +kernel
theorem dX7_forget_45 : decode cX7_forget 45 = .ok (.aload_n 0, 1) := by decide +kernel
theorem dX7_forget_46 : decode cX7_forget 46 = .ok (.iconst (-1), 1) := by decide +kernel
theorem dX7_forget_47 : decode cX7_forget 47 = .ok (.putfield 125, 3) := by decide +kernel
theorem dX7_forget_50 : decode cX7_forget 50 = .ok (.return_, 1) := by decide +kernel
theorem wX7_forget {x : GX} {n0 sl0 : Nat} (X : Cx x cX7_forget RX7 none n0 sl0 0 0) {out : Mm} (hE : Ends x n0 sl0 none out) (hn : xn x = 1) (fu : Nat)   (a0 : Nat)  (M : Mm) (h : fX7_forget fu  a0 M = some out) : Gw x M 0 [(0, pR (some a0))] [] := by
  unfold fX7_forget at h
  refine g_aload_n X (pc := 0) 0 rfl rfl dX7_forget_0 ?_
  refine g_iconst X (pc := 1) (v := 0) dX7_forget_1 (by decide) ?_
  obtain ⟨M1, eM1, h⟩ := bd h
  refine g_putI X (pc := 2) fk_7_5 rfl rfl rfl eM1 tb_261 (Or.inl rfl) dX7_forget_2 ?_
  refine g_aload_n X (pc := 5) 0 rfl rfl dX7_forget_5 ?_
  refine g_iconst X (pc := 6) (v := 0) dX7_forget_6 (by decide) ?_
  obtain ⟨M2, eM2, h⟩ := bd h
  refine g_putZ X (pc := 7) fk_7_6 rfl rfl rfl eM2 tb_262 (Or.inl rfl) dX7_forget_7 ?_
  refine g_aload_n X (pc := 10) 0 rfl rfl dX7_forget_10 ?_
  refine g_iconst X (pc := 11) (v := 0) dX7_forget_11 (by decide) ?_
  obtain ⟨M3, eM3, h⟩ := bd h
  refine g_putI X (pc := 12) fk_7_9 rfl rfl rfl eM3 tb_265 (Or.inl rfl) dX7_forget_12 ?_
  refine g_aload_n X (pc := 15) 0 rfl rfl dX7_forget_15 ?_
  refine g_iconst X (pc := 16) (v := 0) dX7_forget_16 (by decide) ?_
  obtain ⟨M4, eM4, h⟩ := bd h
  refine g_putI X (pc := 17) fk_7_10 rfl rfl rfl eM4 tb_266 (Or.inl rfl) dX7_forget_17 ?_
  refine g_aload_n X (pc := 20) 0 rfl rfl dX7_forget_20 ?_
  refine g_iconst X (pc := 21) (v := 0) dX7_forget_21 (by decide) ?_
  obtain ⟨M5, eM5, h⟩ := bd h
  refine g_putI X (pc := 22) fk_7_11 rfl rfl rfl eM5 tb_267 (Or.inl rfl) dX7_forget_22 ?_
  refine g_aload_n X (pc := 25) 0 rfl rfl dX7_forget_25 ?_
  refine g_iconst X (pc := 26) (v := 0) dX7_forget_26 (by decide) ?_
  obtain ⟨M6, eM6, h⟩ := bd h
  refine g_putI X (pc := 27) fk_7_12 rfl rfl rfl eM6 tb_268 (Or.inl rfl) dX7_forget_27 ?_
  refine g_aload_n X (pc := 30) 0 rfl rfl dX7_forget_30 ?_
  refine g_iconst X (pc := 31) (v := 0) dX7_forget_31 (by decide) ?_
  obtain ⟨M7, eM7, h⟩ := bd h
  refine g_putI X (pc := 32) fk_7_13 rfl rfl rfl eM7 tb_269 (Or.inl rfl) dX7_forget_32 ?_
  refine g_aload_n X (pc := 35) 0 rfl rfl dX7_forget_35 ?_
  refine g_iconst X (pc := 36) (v := 0) dX7_forget_36 (by decide) ?_
  obtain ⟨M8, eM8, h⟩ := bd h
  refine g_putZ X (pc := 37) fk_7_16 rfl rfl rfl eM8 tb_272 (Or.inl rfl) dX7_forget_37 ?_
  refine g_aload_n X (pc := 40) 0 rfl rfl dX7_forget_40 ?_
  refine g_iconst X (pc := 41) (v := 0) dX7_forget_41 (by decide) ?_
  obtain ⟨M9, eM9, h⟩ := bd h
  refine g_putZ X (pc := 42) fk_7_17 rfl rfl rfl eM9 tb_273 (Or.inl rfl) dX7_forget_42 ?_
  refine g_aload_n X (pc := 45) 0 rfl rfl dX7_forget_45 ?_
  refine g_iconst X (pc := 46) (v := (-1)) dX7_forget_46 (by decide) ?_
  obtain ⟨M10, eM10, h⟩ := bd h
  refine g_putI X (pc := 47) fk_7_18 rfl rfl rfl eM10 tb_274 (Or.inl rfl) dX7_forget_47 ?_
  obtain rfl := Option.some.inj h
  exact g_return X hE dX7_forget_50
theorem hyX7_forget : yX7_forget.cls ≠ "java/lang/invoke/MethodHandle" ∧ yX7_forget.cls ≠ "java/lang/invoke/VarHandle" ∧ (parseMethodDescriptor yX7_forget.desc).map (fun d => d.parameters.length) = some 0 := ⟨by decide +kernel, by decide +kernel, by decide +kernel⟩
theorem ctX7_forget (l : Launch) (E : Nat → Nat) (D : va_G) (dA : Nat → ClassId) (lo : Nat) (H0 : Heap) (fu : Nat) (a0 : Nat) (M : Mm) (out : Mm) (h : fX7_forget fu a0 M = some out) : Ct l E D dA lo H0 yX7_forget cX7_forget 1 none 0 0 [pR (some a0)] M none out := by
  refine ct_of (by decide +kernel) (Nat.le_of_ble_eq_true rfl) ?_
  intro x hl he hd ha ho hh hn hin X hE
  exact wX7_forget X hE hn fu a0 M h
/-! WebHost$Requests.isText(IILjava/lang/String;)Z -/
def fX7_isText_L15 (fu : Nat)  : Nat → Nat → Int32 → Option Nat → Int32 → Mm → Option (Int32 × Mm)
  | 0, _, _, _, _, _ => none
  | n + 1, a0, a1, a3, a4, M =>
    (rcS a3).bind fun q1 =>
    b2 (fJ0_length_8abf5 fu q1  M) fun v3 M2 =>
    if v3 ≤ a4 then (
    rN .boolean (1 : Int32) M2)
    else (
    (gR M2 7 450 (some a0)).bind fun v4 =>
    b2 (fX11_one fu  v4 (a1 + a4) M2) fun v6 M5 =>
    (rcS a3).bind fun q7 =>
    b2 (fJ0_charAt_5068e fu q7 a4 M5) fun v9 M8 =>
    if v6 = v9 then (
    fX7_isText_L15 fu  n a0 a1 a3 (a4 + (1 : Int32)) M8)
    else (
    rN .boolean (0 : Int32) M8))
def fX7_isText (fu : Nat)  (a0 : Nat) (a1 : Int32) (a2 : Int32) (a3 : Option Nat)  (M : Mm) : Option (Int32 × Mm) :=
    (rcS a3).bind fun q1 =>
    b2 (fJ0_length_8abf5 fu q1  M) fun v3 M2 =>
    if (a2 - a1) = v3 then (
    fX7_isText_L15 fu  fu a0 a1 a3 (0 : Int32) M2)
    else (
    rN .boolean (0 : Int32) M2)
theorem dX7_isText_0 : decode cX7_isText 0 = .ok (.iload_n 2, 1) := by decide +kernel
theorem dX7_isText_1 : decode cX7_isText 1 = .ok (.iload_n 1, 1) := by decide +kernel
theorem dX7_isText_2 : decode cX7_isText 2 = .ok (.isub, 1) := by decide +kernel
theorem dX7_isText_3 : decode cX7_isText 3 = .ok (.aload_n 3, 1) := by decide +kernel
theorem dX7_isText_4 : decode cX7_isText 4 = .ok (.invokevirtual 156, 3) := by decide +kernel
theorem dX7_isText_7 : decode cX7_isText 7 = .ok (.if_icmp .eq 5, 3) := by decide +kernel
theorem dX7_isText_10 : decode cX7_isText 10 = .ok (.iconst 0, 1) := by decide +kernel
theorem dX7_isText_11 : decode cX7_isText 11 = .ok (.ireturn, 1) := by decide +kernel
theorem dX7_isText_12 : decode cX7_isText 12 = .ok (.iconst 0, 1) := by decide +kernel
theorem dX7_isText_13 : decode cX7_isText 13 = .ok (.istore 4, 2) := by decide +kernel
theorem dX7_isText_15 : decode cX7_isText 15 = .ok (.iload 4, 2) := by decide +kernel
theorem dX7_isText_17 : decode cX7_isText 17 = .ok (.aload_n 3, 1) := by decide +kernel
theorem dX7_isText_18 : decode cX7_isText 18 = .ok (.invokevirtual 156, 3) := by decide +kernel
theorem dX7_isText_21 : decode cX7_isText 21 = .ok (.if_icmp .ge 31, 3) := by decide +kernel
theorem dX7_isText_24 : decode cX7_isText 24 = .ok (.aload_n 0, 1) := by decide +kernel
theorem dX7_isText_25 : decode cX7_isText 25 = .ok (.getfield 21, 3) := by decide +kernel
theorem dX7_isText_28 : decode cX7_isText 28 = .ok (.iload_n 1, 1) := by decide +kernel
theorem dX7_isText_29 : decode cX7_isText 29 = .ok (.iload 4, 2) := by decide +kernel
theorem dX7_isText_31 : decode cX7_isText 31 = .ok (.iadd, 1) := by decide +kernel
theorem dX7_isText_32 : decode cX7_isText 32 = .ok (.invokestatic 97, 3) := by decide +kernel
theorem dX7_isText_35 : decode cX7_isText 35 = .ok (.aload_n 3, 1) := by decide +kernel
theorem dX7_isText_36 : decode cX7_isText 36 = .ok (.iload 4, 2) := by decide +kernel
theorem dX7_isText_38 : decode cX7_isText 38 = .ok (.invokevirtual 161, 3) := by decide +kernel
theorem dX7_isText_41 : decode cX7_isText 41 = .ok (.if_icmp .eq 5, 3) := by decide +kernel
theorem dX7_isText_44 : decode cX7_isText 44 = .ok (.iconst 0, 1) := by decide +kernel
theorem dX7_isText_45 : decode cX7_isText 45 = .ok (.ireturn, 1) := by decide +kernel
theorem dX7_isText_46 : decode cX7_isText 46 = .ok (.iinc 4 1, 3) := by decide +kernel
theorem dX7_isText_49 : decode cX7_isText 49 = .ok (.goto (-34), 3) := by decide +kernel
theorem dX7_isText_52 : decode cX7_isText 52 = .ok (.iconst 1, 1) := by decide +kernel
theorem dX7_isText_53 : decode cX7_isText 53 = .ok (.ireturn, 1) := by decide +kernel
theorem wX7_isText_L15 {x : GX} {n0 sl0 : Nat} (X : Cx x cX7_isText RX7 (some .boolean) n0 sl0 5 106) {out : Int32 × Mm} (hE : Ends x n0 sl0 (some (pI out.1)) out.2) (hn : xn x = 5) (fu : Nat)   : ∀ (n : Nat) (a0 : Nat) (a1 : Int32) (a3 : Option Nat) (a4 : Int32)  (M : Mm), fX7_isText_L15 fu  n a0 a1 a3 a4 M = some out → Gw x M 15 [(0, pR (some a0)), (1, pI a1), (3, pR a3), (4, pI a4)] [] := by
  intro n
  induction n with
  | zero =>
    intro a0 a1 a3 a4 M h
    have h : (none : Option (Int32 × Mm)) = some out := h
    cases h
  | succ n ih =>
    intro a0 a1 a3 a4 M h
    rw [fX7_isText_L15] at h
    refine g_iload X (pc := 15) 3 rfl dX7_isText_15 ?_
    refine g_aload_n X (pc := 17) 2 rfl rfl dX7_isText_17 ?_
    obtain ⟨q1, eq1, h⟩ := bd h
    obtain ⟨v3, M2, eM2, h⟩ := b2d h
    refine g_callVS X (pc := 18) (M' := M2) (ro := some (pI v3)) (as := []) (as' := []) (st := [pI a4]) eq1 (ctJ0_length_8abf5 _ _ _ _ _ _ fu q1  M _ eM2) tb_1214 tb_1211 tb_1212 tb_1213 tb_21 ⟨rfl, hyJ0_length_8abf5⟩ rfl rfl ⟨by decide, by decide⟩ (Nat.le_of_ble_eq_true rfl) dX7_isText_18 ?_
    refine g_icmp_ge X (pc := 21) (tgt := 52) dX7_isText_21 (by decide) (fun hc => ?_) (fun hc => ?_)
    · have h := (if_pos hc).symm.trans h
      refine g_iconst X (pc := 52) (v := 1) dX7_isText_52 (by decide) ?_
      obtain ⟨hz, rfl⟩ := rN_some h
      exact g_nreturn X rfl hz hE dX7_isText_53
    · have h := (if_neg hc).symm.trans h
      refine g_aload_n X (pc := 24) 0 rfl rfl dX7_isText_24 ?_
      obtain ⟨v4, ev4, h⟩ := bd h
      refine g_getR X (pc := 25) fk_7_2 rfl rfl ev4 tb_258 dX7_isText_25 ?_
      refine g_iload_n X (pc := 28) 1 rfl rfl dX7_isText_28 ?_
      refine g_iload X (pc := 29) 3 rfl dX7_isText_29 ?_
      refine g_iadd X (pc := 31) dX7_isText_31 ?_
      obtain ⟨v6, M5, eM5, h⟩ := b2d h
      refine g_callSN X (pc := 32) (M' := M5) (ro := some (pI v6)) (as := [pR v4, pI (a1 + a4)]) (as' := [pI (a1 + a4), pR v4]) (st := []) (ctX11_one _ _ _ _ _ _ fu  v4 (a1 + a4) M2 _ eM5) tb_415 (List.mem_of_getElem? (i := 24) rfl) tb_414 tb_1 hyX11_one rfl rfl ⟨by decide, by decide⟩ (Nat.le_of_ble_eq_true rfl) dX7_isText_32 ?_
      refine g_aload_n X (pc := 35) 2 rfl rfl dX7_isText_35 ?_
      refine g_iload X (pc := 36) 3 rfl dX7_isText_36 ?_
      obtain ⟨q7, eq7, h⟩ := bd h
      obtain ⟨v9, M8, eM8, h⟩ := b2d h
      refine g_callVS X (pc := 38) (M' := M8) (ro := some (pI v9)) (as := [pI a4]) (as' := [pI a4]) (st := [pI v6]) eq7 (ctJ0_charAt_5068e _ _ _ _ _ _ fu q7 a4 M5 _ eM8) tb_1224 tb_1221 tb_1222 tb_1223 tb_21 ⟨rfl, hyJ0_charAt_5068e⟩ rfl rfl ⟨by decide, by decide⟩ (Nat.le_of_ble_eq_true rfl) dX7_isText_38 ?_
      refine g_icmp_eq X (pc := 41) (tgt := 46) dX7_isText_41 (by decide) (fun hc => ?_) (fun hc => ?_)
      · have h := (if_pos hc).symm.trans h
        refine g_iinc X (pc := 46) 3 [(4, pI (a4 + (1 : Int32))), (0, pR (some a0)), (1, pI a1), (3, pR a3)] rfl (iinc_e (by decide)) (lt_n hn (by decide)) rfl dX7_isText_46 ?_
        refine g_goto X (pc := 49) (tgt := 15) dX7_isText_49 (by decide) ?_
        refine g_sub [1, 2, 3, 0] [(0, pR (some a0)), (1, pI a1), (3, pR a3), (4, pI (a4 + (1 : Int32)))] rfl ?_
        exact ih a0 a1 a3 (a4 + (1 : Int32)) M8 h
      · have h := (if_neg hc).symm.trans h
        refine g_iconst X (pc := 44) (v := 0) dX7_isText_44 (by decide) ?_
        obtain ⟨hz, rfl⟩ := rN_some h
        exact g_nreturn X rfl hz hE dX7_isText_45
theorem wX7_isText {x : GX} {n0 sl0 : Nat} (X : Cx x cX7_isText RX7 (some .boolean) n0 sl0 5 106) {out : Int32 × Mm} (hE : Ends x n0 sl0 (some (pI out.1)) out.2) (hn : xn x = 5) (fu : Nat)   (a0 : Nat) (a1 : Int32) (a2 : Int32) (a3 : Option Nat)  (M : Mm) (h : fX7_isText fu  a0 a1 a2 a3 M = some out) : Gw x M 0 [(0, pR (some a0)), (1, pI a1), (2, pI a2), (3, pR a3)] [] := by
  unfold fX7_isText at h
  refine g_iload_n X (pc := 0) 2 rfl rfl dX7_isText_0 ?_
  refine g_iload_n X (pc := 1) 1 rfl rfl dX7_isText_1 ?_
  refine g_isub X (pc := 2) dX7_isText_2 ?_
  refine g_aload_n X (pc := 3) 3 rfl rfl dX7_isText_3 ?_
  obtain ⟨q1, eq1, h⟩ := bd h
  obtain ⟨v3, M2, eM2, h⟩ := b2d h
  refine g_callVS X (pc := 4) (M' := M2) (ro := some (pI v3)) (as := []) (as' := []) (st := [pI (a2 - a1)]) eq1 (ctJ0_length_8abf5 _ _ _ _ _ _ fu q1  M _ eM2) tb_1214 tb_1211 tb_1212 tb_1213 tb_21 ⟨rfl, hyJ0_length_8abf5⟩ rfl rfl ⟨by decide, by decide⟩ (Nat.le_of_ble_eq_true rfl) dX7_isText_4 ?_
  refine g_icmp_eq X (pc := 7) (tgt := 12) dX7_isText_7 (by decide) (fun hc => ?_) (fun hc => ?_)
  · have h := (if_pos hc).symm.trans h
    refine g_iconst X (pc := 12) (v := 0) dX7_isText_12 (by decide) ?_
    refine g_istore X (pc := 13) [(4, pI (0 : Int32)), (0, pR (some a0)), (1, pI a1), (2, pI a2), (3, pR a3)] (lt_n hn (by decide)) rfl dX7_isText_13 ?_
    refine g_sub [1, 2, 4, 0] [(0, pR (some a0)), (1, pI a1), (3, pR a3), (4, pI (0 : Int32))] rfl ?_
    exact wX7_isText_L15 X hE hn fu   fu a0 a1 a3 (0 : Int32) M2 h
  · have h := (if_neg hc).symm.trans h
    refine g_iconst X (pc := 10) (v := 0) dX7_isText_10 (by decide) ?_
    obtain ⟨hz, rfl⟩ := rN_some h
    exact g_nreturn X rfl hz hE dX7_isText_11
theorem hyX7_isText : yX7_isText.cls ≠ "java/lang/invoke/MethodHandle" ∧ yX7_isText.cls ≠ "java/lang/invoke/VarHandle" ∧ (parseMethodDescriptor yX7_isText.desc).map (fun d => d.parameters.length) = some 3 := ⟨by decide +kernel, by decide +kernel, by decide +kernel⟩
theorem ctX7_isText (l : Launch) (E : Nat → Nat) (D : va_G) (dA : Nat → ClassId) (lo : Nat) (H0 : Heap) (fu : Nat) (a0 : Nat) (a1 : Int32) (a2 : Int32) (a3 : Option Nat) (M : Mm) (out : Int32 × Mm) (h : fX7_isText fu a0 a1 a2 a3 M = some out) : Ct l E D dA lo H0 yX7_isText cX7_isText 5 (some .boolean) 5 106 [pR (some a0), pI a1, pI a2, pR a3] M (some (pI out.1)) out.2 := by
  refine ct_of (by decide +kernel) (Nat.le_of_ble_eq_true rfl) ?_
  intro x hl he hd ha ho hh hn hin X hE
  exact wX7_isText X hE hn fu a0 a1 a2 a3 M h
/-! WebHost$Requests.readRequestLine(I)Z -/
def fX7_readRequestLine_L160 (fu : Nat)  (a0 : Nat) (a2 : Int32) (a3 : Int32) (s0 : Option Nat) (s1 : Int32) (M : Mm) : Option (Int32 × Mm) :=
    (pZ M 7 454 s0 s1).bind fun M1 =>
    (pF M1 7 455 (some a0) (a2 + (1 : Int32))).bind fun M2 =>
    (pF M2 7 456 (some a0) a3).bind fun M3 =>
    (rc M3 7 (some a0)).bind fun q4 =>
    b2 (fX7_isText fu q4 (0 : Int32) a2 (some 2) M3) fun v6 M5 =>
    if v6 = 0 then (
    (rc M5 7 (some a0)).bind fun q7 =>
    b2 (fX7_isText fu q7 (0 : Int32) a2 (some 3) M5) fun v9 M8 =>
    if v9 = 0 then (
    (pF M8 7 453 (some a0) (2 : Int32)).bind fun M10 =>
    rN .boolean (1 : Int32) M10)
    else (
    (pF M8 7 453 (some a0) (1 : Int32)).bind fun M11 =>
    rN .boolean (1 : Int32) M11))
    else (
    (pF M5 7 453 (some a0) (0 : Int32)).bind fun M12 =>
    rN .boolean (1 : Int32) M12)
def fX7_readRequestLine_L149 (fu : Nat)  (a0 : Nat) (a2 : Int32) (a3 : Int32) (a4 : Int32)  (M : Mm) : Option (Int32 × Mm) :=
    if a4 = 0 then (
    fX7_readRequestLine_L160 fu  a0 a2 a3 (some a0) (1 : Int32) M)
    else (
    fX7_readRequestLine_L160 fu  a0 a2 a3 (some a0) (0 : Int32) M)
def fX7_readRequestLine_L80 (fu : Nat)  (a0 : Nat) (a1 : Int32) (a2 : Int32) (a3 : Int32)  (M : Mm) : Option (Int32 × Mm) :=
    if a2 < (1 : Int32) then (
    rN .boolean (0 : Int32) M)
    else (
    if (16 : Int32) < a2 then (
    rN .boolean (0 : Int32) M)
    else (
    (gR M 7 450 (some a0)).bind fun v1 =>
    b2 (fX11_one fu  v1 a2 M) fun v3 M2 =>
    if v3 = (32 : Int32) then (
    (gR M2 7 450 (some a0)).bind fun v4 =>
    b2 (fX11_one fu  v4 (a2 + (1 : Int32)) M2) fun v6 M5 =>
    if v6 = (47 : Int32) then (
    (rc M5 7 (some a0)).bind fun q7 =>
    b2 (fX7_isText fu q7 a3 a1 (some 0) M5) fun v9 M8 =>
    if v9 = 0 then (
    (rc M8 7 (some a0)).bind fun q10 =>
    b2 (fX7_isText fu q10 a3 a1 (some 1) M8) fun v12 M11 =>
    if v12 = 0 then (
    rN .boolean (0 : Int32) M11)
    else (
    fX7_readRequestLine_L149 fu  a0 a2 a3 v9 M11))
    else (
    fX7_readRequestLine_L149 fu  a0 a2 a3 v9 M8))
    else (
    rN .boolean (0 : Int32) M5))
    else (
    rN .boolean (0 : Int32) M2)))
def fX7_readRequestLine_L43 (fu : Nat)  : Nat → Nat → Int32 → Int32 → Int32 → Mm → Option (Int32 × Mm)
  | 0, _, _, _, _, _ => none
  | n + 1, a0, a1, a2, a3, M =>
    if a1 ≤ a3 then (
    fX7_readRequestLine_L80 fu  a0 a1 a2 a3 M)
    else (
    (gR M 7 450 (some a0)).bind fun v1 =>
    b2 (fX11_one fu  v1 a3 M) fun v3 M2 =>
    if v3 ≤ (32 : Int32) then (
    fX7_readRequestLine_L80 fu  a0 a1 a2 a3 M2)
    else (
    (gR M2 7 450 (some a0)).bind fun v4 =>
    b2 (fX11_one fu  v4 a3 M2) fun v6 M5 =>
    if (127 : Int32) ≤ v6 then (
    fX7_readRequestLine_L80 fu  a0 a1 a2 a3 M5)
    else (
    fX7_readRequestLine_L43 fu  n a0 a1 a2 (a3 + (1 : Int32)) M5)))
def fX7_readRequestLine_L39 (fu : Nat)  (a0 : Nat) (a1 : Int32) (a2 : Int32)  (M : Mm) : Option (Int32 × Mm) :=
    fX7_readRequestLine_L43 fu  fu a0 a1 a2 (a2 + (1 : Int32)) M
def fX7_readRequestLine_L2 (fu : Nat)  : Nat → Nat → Int32 → Int32 → Mm → Option (Int32 × Mm)
  | 0, _, _, _, _ => none
  | n + 1, a0, a1, a2, M =>
    if a1 ≤ a2 then (
    fX7_readRequestLine_L39 fu  a0 a1 a2 M)
    else (
    (gR M 7 450 (some a0)).bind fun v1 =>
    b2 (fX11_one fu  v1 a2 M) fun v3 M2 =>
    if v3 < (65 : Int32) then (
    fX7_readRequestLine_L39 fu  a0 a1 a2 M2)
    else (
    (gR M2 7 450 (some a0)).bind fun v4 =>
    b2 (fX11_one fu  v4 a2 M2) fun v6 M5 =>
    if (90 : Int32) < v6 then (
    fX7_readRequestLine_L39 fu  a0 a1 a2 M5)
    else (
    fX7_readRequestLine_L2 fu  n a0 a1 (a2 + (1 : Int32)) M5)))
def fX7_readRequestLine (fu : Nat)  (a0 : Nat) (a1 : Int32)  (M : Mm) : Option (Int32 × Mm) :=
    fX7_readRequestLine_L2 fu  fu a0 a1 (0 : Int32) M
theorem dX7_readRequestLine_0 : decode cX7_readRequestLine 0 = .ok (.iconst 0, 1) := by decide +kernel
theorem dX7_readRequestLine_1 : decode cX7_readRequestLine 1 = .ok (.istore_n 2, 1) := by decide +kernel
theorem dX7_readRequestLine_2 : decode cX7_readRequestLine 2 = .ok (.iload_n 2, 1) := by decide +kernel
theorem dX7_readRequestLine_3 : decode cX7_readRequestLine 3 = .ok (.iload_n 1, 1) := by decide +kernel
theorem dX7_readRequestLine_4 : decode cX7_readRequestLine 4 = .ok (.if_icmp .ge 35, 3) := by decide +kernel
theorem dX7_readRequestLine_7 : decode cX7_readRequestLine 7 = .ok (.aload_n 0, 1) := by decide +kernel
theorem dX7_readRequestLine_8 : decode cX7_readRequestLine 8 = .ok (.getfield 21, 3) := by decide +kernel
theorem dX7_readRequestLine_11 : decode cX7_readRequestLine 11 = .ok (.iload_n 2, 1) := by decide +kernel
theorem dX7_readRequestLine_12 : decode cX7_readRequestLine 12 = .ok (.invokestatic 97, 3) := by decide +kernel
theorem dX7_readRequestLine_15 : decode cX7_readRequestLine 15 = .ok (.bipush 65, 2) := by decide +kernel
theorem dX7_readRequestLine_17 : decode cX7_readRequestLine 17 = .ok (.if_icmp .lt 22, 3) := by decide +kernel
theorem dX7_readRequestLine_20 : decode cX7_readRequestLine 20 = .ok (.aload_n 0, 1) := by decide +kernel
theorem dX7_readRequestLine_21 : decode cX7_readRequestLine 21 = .ok (.getfield 21, 3) := by decide +kernel
theorem dX7_readRequestLine_24 : decode cX7_readRequestLine 24 = .ok (.iload_n 2, 1) := by decide +kernel
theorem dX7_readRequestLine_25 : decode cX7_readRequestLine 25 = .ok (.invokestatic 97, 3) := by decide +kernel
theorem dX7_readRequestLine_28 : decode cX7_readRequestLine 28 = .ok (.bipush 90, 2) := by decide +kernel
theorem dX7_readRequestLine_30 : decode cX7_readRequestLine 30 = .ok (.if_icmp .gt 9, 3) := by decide +kernel
theorem dX7_readRequestLine_33 : decode cX7_readRequestLine 33 = .ok (.iinc 2 1, 3) := by decide +kernel
theorem dX7_readRequestLine_36 : decode cX7_readRequestLine 36 = .ok (.goto (-34), 3) := by decide +kernel
theorem dX7_readRequestLine_39 : decode cX7_readRequestLine 39 = .ok (.iload_n 2, 1) := by decide +kernel
theorem dX7_readRequestLine_40 : decode cX7_readRequestLine 40 = .ok (.iconst 1, 1) := by decide +kernel
theorem dX7_readRequestLine_41 : decode cX7_readRequestLine 41 = .ok (.iadd, 1) := by decide +kernel
theorem dX7_readRequestLine_42 : decode cX7_readRequestLine 42 = .ok (.istore_n 3, 1) := by decide +kernel
theorem dX7_readRequestLine_43 : decode cX7_readRequestLine 43 = .ok (.iload_n 3, 1) := by decide +kernel
theorem dX7_readRequestLine_44 : decode cX7_readRequestLine 44 = .ok (.iload_n 1, 1) := by decide +kernel
theorem dX7_readRequestLine_45 : decode cX7_readRequestLine 45 = .ok (.if_icmp .ge 35, 3) := by decide +kernel
theorem dX7_readRequestLine_48 : decode cX7_readRequestLine 48 = .ok (.aload_n 0, 1) := by decide +kernel
theorem dX7_readRequestLine_49 : decode cX7_readRequestLine 49 = .ok (.getfield 21, 3) := by decide +kernel
theorem dX7_readRequestLine_52 : decode cX7_readRequestLine 52 = .ok (.iload_n 3, 1) := by decide +kernel
theorem dX7_readRequestLine_53 : decode cX7_readRequestLine 53 = .ok (.invokestatic 97, 3) := by decide +kernel
theorem dX7_readRequestLine_56 : decode cX7_readRequestLine 56 = .ok (.bipush 32, 2) := by decide +kernel
theorem dX7_readRequestLine_58 : decode cX7_readRequestLine 58 = .ok (.if_icmp .le 22, 3) := by decide +kernel
theorem dX7_readRequestLine_61 : decode cX7_readRequestLine 61 = .ok (.aload_n 0, 1) := by decide +kernel
theorem dX7_readRequestLine_62 : decode cX7_readRequestLine 62 = .ok (.getfield 21, 3) := by decide +kernel
theorem dX7_readRequestLine_65 : decode cX7_readRequestLine 65 = .ok (.iload_n 3, 1) := by decide +kernel
theorem dX7_readRequestLine_66 : decode cX7_readRequestLine 66 = .ok (.invokestatic 97, 3) := by decide +kernel
theorem dX7_readRequestLine_69 : decode cX7_readRequestLine 69 = .ok (.bipush 127, 2) := by decide +kernel
theorem dX7_readRequestLine_71 : decode cX7_readRequestLine 71 = .ok (.if_icmp .ge 9, 3) := by decide +kernel
theorem dX7_readRequestLine_74 : decode cX7_readRequestLine 74 = .ok (.iinc 3 1, 3) := by decide +kernel
theorem dX7_readRequestLine_77 : decode cX7_readRequestLine 77 = .ok (.goto (-34), 3) := by decide +kernel
theorem dX7_readRequestLine_80 : decode cX7_readRequestLine 80 = .ok (.iload_n 2, 1) := by decide +kernel
theorem dX7_readRequestLine_81 : decode cX7_readRequestLine 81 = .ok (.iconst 1, 1) := by decide +kernel
theorem dX7_readRequestLine_82 : decode cX7_readRequestLine 82 = .ok (.if_icmp .lt 37, 3) := by decide +kernel
theorem dX7_readRequestLine_85 : decode cX7_readRequestLine 85 = .ok (.iload_n 2, 1) := by decide +kernel
theorem dX7_readRequestLine_86 : decode cX7_readRequestLine 86 = .ok (.bipush 16, 2) := by decide +kernel
theorem dX7_readRequestLine_88 : decode cX7_readRequestLine 88 = .ok (.if_icmp .gt 31, 3) := by decide +kernel
theorem dX7_readRequestLine_91 : decode cX7_readRequestLine 91 = .ok (.aload_n 0, 1) := by decide +kernel
theorem dX7_readRequestLine_92 : decode cX7_readRequestLine 92 = .ok (.getfield 21, 3) := by decide +kernel
theorem dX7_readRequestLine_95 : decode cX7_readRequestLine 95 = .ok (.iload_n 2, 1) := by decide +kernel
theorem dX7_readRequestLine_96 : decode cX7_readRequestLine 96 = .ok (.invokestatic 97, 3) := by decide +kernel
theorem dX7_readRequestLine_99 : decode cX7_readRequestLine 99 = .ok (.bipush 32, 2) := by decide +kernel
theorem dX7_readRequestLine_101 : decode cX7_readRequestLine 101 = .ok (.if_icmp .ne 18, 3) := by decide +kernel
theorem dX7_readRequestLine_104 : decode cX7_readRequestLine 104 = .ok (.aload_n 0, 1) := by decide +kernel
theorem dX7_readRequestLine_105 : decode cX7_readRequestLine 105 = .ok (.getfield 21, 3) := by decide +kernel
theorem dX7_readRequestLine_108 : decode cX7_readRequestLine 108 = .ok (.iload_n 2, 1) := by decide +kernel
theorem dX7_readRequestLine_109 : decode cX7_readRequestLine 109 = .ok (.iconst 1, 1) := by decide +kernel
theorem dX7_readRequestLine_110 : decode cX7_readRequestLine 110 = .ok (.iadd, 1) := by decide +kernel
theorem dX7_readRequestLine_111 : decode cX7_readRequestLine 111 = .ok (.invokestatic 97, 3) := by decide +kernel
theorem dX7_readRequestLine_114 : decode cX7_readRequestLine 114 = .ok (.bipush 47, 2) := by decide +kernel
theorem dX7_readRequestLine_116 : decode cX7_readRequestLine 116 = .ok (.if_icmp .eq 5, 3) := by decide +kernel
theorem dX7_readRequestLine_119 : decode cX7_readRequestLine 119 = .ok (.iconst 0, 1) := by decide +kernel
theorem dX7_readRequestLine_120 : decode cX7_readRequestLine 120 = .ok (.ireturn, 1) := by decide +kernel
theorem dX7_readRequestLine_121 : decode cX7_readRequestLine 121 = .ok (.aload_n 0, 1) := by decide +kernel
theorem dX7_readRequestLine_122 : decode cX7_readRequestLine 122 = .ok (.iload_n 3, 1) := by decide +kernel
theorem dX7_readRequestLine_123 : decode cX7_readRequestLine 123 = .ok (.iload_n 1, 1) := by decide +kernel
theorem dX7_readRequestLine_124 : decode cX7_readRequestLine 124 = .ok (.ldc 138, 2) := by decide +kernel
theorem dX7_readRequestLine_126 : decode cX7_readRequestLine 126 = .ok (.invokevirtual 140, 3) := by decide +kernel
theorem dX7_readRequestLine_129 : decode cX7_readRequestLine 129 = .ok (.istore 4, 2) := by decide +kernel
theorem dX7_readRequestLine_131 : decode cX7_readRequestLine 131 = .ok (.iload 4, 2) := by decide +kernel
theorem dX7_readRequestLine_133 : decode cX7_readRequestLine 133 = .ok (.ifCond .ne 16, 3) := by decide +kernel
theorem dX7_readRequestLine_136 : decode cX7_readRequestLine 136 = .ok (.aload_n 0, 1) := by decide +kernel
theorem dX7_readRequestLine_137 : decode cX7_readRequestLine 137 = .ok (.iload_n 3, 1) := by decide +kernel
theorem dX7_readRequestLine_138 : decode cX7_readRequestLine 138 = .ok (.iload_n 1, 1) := by decide +kernel
theorem dX7_readRequestLine_139 : decode cX7_readRequestLine 139 = .ok (.ldc 144, 2) := by decide +kernel
theorem dX7_readRequestLine_141 : decode cX7_readRequestLine 141 = .ok (.invokevirtual 140, 3) := by decide +kernel
theorem dX7_readRequestLine_144 : decode cX7_readRequestLine 144 = .ok (.ifCond .ne 5, 3) := by decide +kernel
theorem dX7_readRequestLine_147 : decode cX7_readRequestLine 147 = .ok (.iconst 0, 1) := by decide +kernel
theorem dX7_readRequestLine_148 : decode cX7_readRequestLine 148 = .ok (.ireturn, 1) := by decide +kernel
theorem dX7_readRequestLine_149 : decode cX7_readRequestLine 149 = .ok (.aload_n 0, 1) := by decide +kernel
theorem dX7_readRequestLine_150 : decode cX7_readRequestLine 150 = .ok (.iload 4, 2) := by decide +kernel
theorem dX7_readRequestLine_152 : decode cX7_readRequestLine 152 = .ok (.ifCond .ne 7, 3) := by decide +kernel
theorem dX7_readRequestLine_155 : decode cX7_readRequestLine 155 = .ok (.iconst 1, 1) := by decide +kernel
theorem dX7_readRequestLine_156 : decode cX7_readRequestLine 156 = .ok (.goto 4, 3) := by decide +kernel
theorem dX7_readRequestLine_159 : decode cX7_readRequestLine 159 = .ok (.iconst 0, 1) := by decide +kernel
theorem dX7_readRequestLine_160 : decode cX7_readRequestLine 160 = .ok (.putfield 104, 3) := by decide +kernel
theorem dX7_readRequestLine_163 : decode cX7_readRequestLine 163 = .ok (.aload_n 0, 1) := by decide +kernel
theorem dX7_readRequestLine_164 : decode cX7_readRequestLine 164 = .ok (.iload_n 2, 1) := by decide +kernel
theorem dX7_readRequestLine_165 : decode cX7_readRequestLine 165 = .ok (.iconst 1, 1) := by decide +kernel
theorem dX7_readRequestLine_166 : decode cX7_readRequestLine 166 = .ok (.iadd, 1) := by decide +kernel
theorem dX7_readRequestLine_167 : decode cX7_readRequestLine 167 = .ok (.putfield 146, 3) := by decide +kernel
theorem dX7_readRequestLine_170 : decode cX7_readRequestLine 170 = .ok (.aload_n 0, 1) := by decide +kernel
theorem dX7_readRequestLine_171 : decode cX7_readRequestLine 171 = .ok (.iload_n 3, 1) := by decide +kernel
theorem dX7_readRequestLine_172 : decode cX7_readRequestLine 172 = .ok (.putfield 149, 3) := by decide +kernel
theorem dX7_readRequestLine_175 : decode cX7_readRequestLine 175 = .ok (.aload_n 0, 1) := by decide +kernel
theorem dX7_readRequestLine_176 : decode cX7_readRequestLine 176 = .ok (.aload_n 0, 1) := by decide +kernel
theorem dX7_readRequestLine_177 : decode cX7_readRequestLine 177 = .ok (.iconst 0, 1) := by decide +kernel
theorem dX7_readRequestLine_178 : decode cX7_readRequestLine 178 = .ok (.iload_n 2, 1) := by decide +kernel
theorem dX7_readRequestLine_179 : decode cX7_readRequestLine 179 = .ok (.ldc 152, 2) := by decide +kernel
theorem dX7_readRequestLine_181 : decode cX7_readRequestLine 181 = .ok (.invokevirtual 140, 3) := by decide +kernel
theorem dX7_readRequestLine_184 : decode cX7_readRequestLine 184 = .ok (.ifCond .eq 7, 3) := by decide +kernel
theorem dX7_readRequestLine_187 : decode cX7_readRequestLine 187 = .ok (.iconst 0, 1) := by decide +kernel
theorem dX7_readRequestLine_188 : decode cX7_readRequestLine 188 = .ok (.goto 19, 3) := by decide +kernel
theorem dX7_readRequestLine_191 : decode cX7_readRequestLine 191 = .ok (.aload_n 0, 1) := by decide +kernel
theorem dX7_readRequestLine_192 : decode cX7_readRequestLine 192 = .ok (.iconst 0, 1) := by decide +kernel
theorem dX7_readRequestLine_193 : decode cX7_readRequestLine 193 = .ok (.iload_n 2, 1) := by decide +kernel
theorem dX7_readRequestLine_194 : decode cX7_readRequestLine 194 = .ok (.ldc 154, 2) := by decide +kernel
theorem dX7_readRequestLine_196 : decode cX7_readRequestLine 196 = .ok (.invokevirtual 140, 3) := by decide +kernel
theorem dX7_readRequestLine_199 : decode cX7_readRequestLine 199 = .ok (.ifCond .eq 7, 3) := by decide +kernel
theorem dX7_readRequestLine_202 : decode cX7_readRequestLine 202 = .ok (.iconst 1, 1) := by decide +kernel
theorem dX7_readRequestLine_203 : decode cX7_readRequestLine 203 = .ok (.goto 4, 3) := by decide +kernel
theorem dX7_readRequestLine_206 : decode cX7_readRequestLine 206 = .ok (.iconst 2, 1) := by decide +kernel
theorem dX7_readRequestLine_207 : decode cX7_readRequestLine 207 = .ok (.putfield 101, 3) := by decide +kernel
theorem dX7_readRequestLine_210 : decode cX7_readRequestLine 210 = .ok (.iconst 1, 1) := by decide +kernel
theorem dX7_readRequestLine_211 : decode cX7_readRequestLine 211 = .ok (.ireturn, 1) := by decide +kernel
theorem wX7_readRequestLine_L160 {x : GX} {n0 sl0 : Nat} (X : Cx x cX7_readRequestLine RX7 (some .boolean) n0 sl0 6 130) {out : Int32 × Mm} (hE : Ends x n0 sl0 (some (pI out.1)) out.2) (hn : xn x = 5) (fu : Nat)   (a0 : Nat) (a2 : Int32) (a3 : Int32) (s0 : Option Nat) (s1 : Int32) (M : Mm) (h : fX7_readRequestLine_L160 fu  a0 a2 a3 s0 s1 M = some out) : Gw x M 160 [(0, pR (some a0)), (2, pI a2), (3, pI a3)] [pI s1, pR s0] := by
  unfold fX7_readRequestLine_L160 at h
  obtain ⟨M1, eM1, h⟩ := bd h
  refine g_putZ X (pc := 160) fk_7_6 rfl rfl rfl eM1 tb_262 (Or.inl rfl) dX7_readRequestLine_160 ?_
  refine g_aload_n X (pc := 163) 0 rfl rfl dX7_readRequestLine_163 ?_
  refine g_iload_n X (pc := 164) 1 rfl rfl dX7_readRequestLine_164 ?_
  refine g_iconst X (pc := 165) (v := 1) dX7_readRequestLine_165 (by decide) ?_
  refine g_iadd X (pc := 166) dX7_readRequestLine_166 ?_
  obtain ⟨M2, eM2, h⟩ := bd h
  refine g_putI X (pc := 167) fk_7_7 rfl rfl rfl eM2 tb_263 (Or.inl rfl) dX7_readRequestLine_167 ?_
  refine g_aload_n X (pc := 170) 0 rfl rfl dX7_readRequestLine_170 ?_
  refine g_iload_n X (pc := 171) 2 rfl rfl dX7_readRequestLine_171 ?_
  obtain ⟨M3, eM3, h⟩ := bd h
  refine g_putI X (pc := 172) fk_7_8 rfl rfl rfl eM3 tb_264 (Or.inl rfl) dX7_readRequestLine_172 ?_
  refine g_aload_n X (pc := 175) 0 rfl rfl dX7_readRequestLine_175 ?_
  refine g_aload_n X (pc := 176) 0 rfl rfl dX7_readRequestLine_176 ?_
  refine g_iconst X (pc := 177) (v := 0) dX7_readRequestLine_177 (by decide) ?_
  refine g_iload_n X (pc := 178) 1 rfl rfl dX7_readRequestLine_178 ?_
  refine g_ldcS X (pc := 179) (List.mem_of_getElem? (i := 2) rfl) dX7_readRequestLine_179 ?_
  obtain ⟨q4, eq4, h⟩ := bd h
  obtain ⟨v6, M5, eM5, h⟩ := b2d h
  refine g_callV X (pc := 181) (M' := M5) (ro := some (pI v6)) (c := 7) rfl (by decide) (as := [pI (0 : Int32), pI a2, pR (some 2)]) (as' := [pR (some 2), pI a2, pI (0 : Int32)]) (st := [pR (some a0)]) eq4 (ctX7_isText _ _ _ _ _ _ fu q4 (0 : Int32) a2 (some 2) M3 _ eM5) tb_1210 tb_1207 tb_1209 ts_45 tb_7 ⟨rfl, hyX7_isText⟩ rfl rfl ⟨by decide, by decide⟩ (Nat.le_of_ble_eq_true rfl) dX7_readRequestLine_181 ?_
  refine g_if_eq X (pc := 184) (tgt := 191) dX7_readRequestLine_184 (by decide) (fun hc => ?_) (fun hc => ?_)
  · have h := (if_pos hc).symm.trans h
    refine g_aload_n X (pc := 191) 0 rfl rfl dX7_readRequestLine_191 ?_
    refine g_iconst X (pc := 192) (v := 0) dX7_readRequestLine_192 (by decide) ?_
    refine g_iload_n X (pc := 193) 1 rfl rfl dX7_readRequestLine_193 ?_
    refine g_ldcS X (pc := 194) (List.mem_of_getElem? (i := 3) rfl) dX7_readRequestLine_194 ?_
    obtain ⟨q7, eq7, h⟩ := bd h
    obtain ⟨v9, M8, eM8, h⟩ := b2d h
    refine g_callV X (pc := 196) (M' := M8) (ro := some (pI v9)) (c := 7) rfl (by decide) (as := [pI (0 : Int32), pI a2, pR (some 3)]) (as' := [pR (some 3), pI a2, pI (0 : Int32)]) (st := [pR (some a0)]) eq7 (ctX7_isText _ _ _ _ _ _ fu q7 (0 : Int32) a2 (some 3) M5 _ eM8) tb_1210 tb_1207 tb_1209 ts_45 tb_7 ⟨rfl, hyX7_isText⟩ rfl rfl ⟨by decide, by decide⟩ (Nat.le_of_ble_eq_true rfl) dX7_readRequestLine_196 ?_
    refine g_if_eq X (pc := 199) (tgt := 206) dX7_readRequestLine_199 (by decide) (fun hc => ?_) (fun hc => ?_)
    · have h := (if_pos hc).symm.trans h
      refine g_iconst X (pc := 206) (v := 2) dX7_readRequestLine_206 (by decide) ?_
      obtain ⟨M10, eM10, h⟩ := bd h
      refine g_putI X (pc := 207) fk_7_5 rfl rfl rfl eM10 tb_261 (Or.inl rfl) dX7_readRequestLine_207 ?_
      refine g_iconst X (pc := 210) (v := 1) dX7_readRequestLine_210 (by decide) ?_
      obtain ⟨hz, rfl⟩ := rN_some h
      exact g_nreturn X rfl hz hE dX7_readRequestLine_211
    · have h := (if_neg hc).symm.trans h
      refine g_iconst X (pc := 202) (v := 1) dX7_readRequestLine_202 (by decide) ?_
      refine g_goto X (pc := 203) (tgt := 207) dX7_readRequestLine_203 (by decide) ?_
      obtain ⟨M11, eM11, h⟩ := bd h
      refine g_putI X (pc := 207) fk_7_5 rfl rfl rfl eM11 tb_261 (Or.inl rfl) dX7_readRequestLine_207 ?_
      refine g_iconst X (pc := 210) (v := 1) dX7_readRequestLine_210 (by decide) ?_
      obtain ⟨hz, rfl⟩ := rN_some h
      exact g_nreturn X rfl hz hE dX7_readRequestLine_211
  · have h := (if_neg hc).symm.trans h
    refine g_iconst X (pc := 187) (v := 0) dX7_readRequestLine_187 (by decide) ?_
    refine g_goto X (pc := 188) (tgt := 207) dX7_readRequestLine_188 (by decide) ?_
    obtain ⟨M12, eM12, h⟩ := bd h
    refine g_putI X (pc := 207) fk_7_5 rfl rfl rfl eM12 tb_261 (Or.inl rfl) dX7_readRequestLine_207 ?_
    refine g_iconst X (pc := 210) (v := 1) dX7_readRequestLine_210 (by decide) ?_
    obtain ⟨hz, rfl⟩ := rN_some h
    exact g_nreturn X rfl hz hE dX7_readRequestLine_211
theorem wX7_readRequestLine_L149 {x : GX} {n0 sl0 : Nat} (X : Cx x cX7_readRequestLine RX7 (some .boolean) n0 sl0 6 130) {out : Int32 × Mm} (hE : Ends x n0 sl0 (some (pI out.1)) out.2) (hn : xn x = 5) (fu : Nat)   (a0 : Nat) (a2 : Int32) (a3 : Int32) (a4 : Int32)  (M : Mm) (h : fX7_readRequestLine_L149 fu  a0 a2 a3 a4 M = some out) : Gw x M 149 [(0, pR (some a0)), (2, pI a2), (3, pI a3), (4, pI a4)] [] := by
  unfold fX7_readRequestLine_L149 at h
  refine g_aload_n X (pc := 149) 0 rfl rfl dX7_readRequestLine_149 ?_
  refine g_iload X (pc := 150) 3 rfl dX7_readRequestLine_150 ?_
  refine g_if_ne X (pc := 152) (tgt := 159) dX7_readRequestLine_152 (by decide) (fun hc => ?_) (fun hc => ?_)
  · have h := (if_neg hc).symm.trans h
    refine g_iconst X (pc := 159) (v := 0) dX7_readRequestLine_159 (by decide) ?_
    refine g_sub [0, 1, 2] [(0, pR (some a0)), (2, pI a2), (3, pI a3)] rfl ?_
    exact wX7_readRequestLine_L160 X hE hn fu   a0 a2 a3 (some a0) (0 : Int32) M h
  · have h := (if_pos hc).symm.trans h
    refine g_iconst X (pc := 155) (v := 1) dX7_readRequestLine_155 (by decide) ?_
    refine g_goto X (pc := 156) (tgt := 160) dX7_readRequestLine_156 (by decide) ?_
    refine g_sub [0, 1, 2] [(0, pR (some a0)), (2, pI a2), (3, pI a3)] rfl ?_
    exact wX7_readRequestLine_L160 X hE hn fu   a0 a2 a3 (some a0) (1 : Int32) M h
theorem wX7_readRequestLine_L80 {x : GX} {n0 sl0 : Nat} (X : Cx x cX7_readRequestLine RX7 (some .boolean) n0 sl0 6 130) {out : Int32 × Mm} (hE : Ends x n0 sl0 (some (pI out.1)) out.2) (hn : xn x = 5) (fu : Nat)   (a0 : Nat) (a1 : Int32) (a2 : Int32) (a3 : Int32)  (M : Mm) (h : fX7_readRequestLine_L80 fu  a0 a1 a2 a3 M = some out) : Gw x M 80 [(0, pR (some a0)), (1, pI a1), (2, pI a2), (3, pI a3)] [] := by
  unfold fX7_readRequestLine_L80 at h
  refine g_iload_n X (pc := 80) 2 rfl rfl dX7_readRequestLine_80 ?_
  refine g_iconst X (pc := 81) (v := 1) dX7_readRequestLine_81 (by decide) ?_
  refine g_icmp_lt X (pc := 82) (tgt := 119) dX7_readRequestLine_82 (by decide) (fun hc => ?_) (fun hc => ?_)
  · have h := (if_pos hc).symm.trans h
    refine g_iconst X (pc := 119) (v := 0) dX7_readRequestLine_119 (by decide) ?_
    obtain ⟨hz, rfl⟩ := rN_some h
    exact g_nreturn X rfl hz hE dX7_readRequestLine_120
  · have h := (if_neg hc).symm.trans h
    refine g_iload_n X (pc := 85) 2 rfl rfl dX7_readRequestLine_85 ?_
    refine g_bipush X (pc := 86) (v := 16) dX7_readRequestLine_86 (by decide) ?_
    refine g_icmp_gt X (pc := 88) (tgt := 119) dX7_readRequestLine_88 (by decide) (fun hc => ?_) (fun hc => ?_)
    · have h := (if_pos hc).symm.trans h
      refine g_iconst X (pc := 119) (v := 0) dX7_readRequestLine_119 (by decide) ?_
      obtain ⟨hz, rfl⟩ := rN_some h
      exact g_nreturn X rfl hz hE dX7_readRequestLine_120
    · have h := (if_neg hc).symm.trans h
      refine g_aload_n X (pc := 91) 0 rfl rfl dX7_readRequestLine_91 ?_
      obtain ⟨v1, ev1, h⟩ := bd h
      refine g_getR X (pc := 92) fk_7_2 rfl rfl ev1 tb_258 dX7_readRequestLine_92 ?_
      refine g_iload_n X (pc := 95) 2 rfl rfl dX7_readRequestLine_95 ?_
      obtain ⟨v3, M2, eM2, h⟩ := b2d h
      refine g_callSN X (pc := 96) (M' := M2) (ro := some (pI v3)) (as := [pR v1, pI a2]) (as' := [pI a2, pR v1]) (st := []) (ctX11_one _ _ _ _ _ _ fu  v1 a2 M _ eM2) tb_415 (List.mem_of_getElem? (i := 24) rfl) tb_414 tb_1 hyX11_one rfl rfl ⟨by decide, by decide⟩ (Nat.le_of_ble_eq_true rfl) dX7_readRequestLine_96 ?_
      refine g_bipush X (pc := 99) (v := 32) dX7_readRequestLine_99 (by decide) ?_
      refine g_icmp_ne X (pc := 101) (tgt := 119) dX7_readRequestLine_101 (by decide) (fun hc => ?_) (fun hc => ?_)
      · have h := (if_neg hc).symm.trans h
        refine g_iconst X (pc := 119) (v := 0) dX7_readRequestLine_119 (by decide) ?_
        obtain ⟨hz, rfl⟩ := rN_some h
        exact g_nreturn X rfl hz hE dX7_readRequestLine_120
      · have h := (if_pos hc).symm.trans h
        refine g_aload_n X (pc := 104) 0 rfl rfl dX7_readRequestLine_104 ?_
        obtain ⟨v4, ev4, h⟩ := bd h
        refine g_getR X (pc := 105) fk_7_2 rfl rfl ev4 tb_258 dX7_readRequestLine_105 ?_
        refine g_iload_n X (pc := 108) 2 rfl rfl dX7_readRequestLine_108 ?_
        refine g_iconst X (pc := 109) (v := 1) dX7_readRequestLine_109 (by decide) ?_
        refine g_iadd X (pc := 110) dX7_readRequestLine_110 ?_
        obtain ⟨v6, M5, eM5, h⟩ := b2d h
        refine g_callSN X (pc := 111) (M' := M5) (ro := some (pI v6)) (as := [pR v4, pI (a2 + (1 : Int32))]) (as' := [pI (a2 + (1 : Int32)), pR v4]) (st := []) (ctX11_one _ _ _ _ _ _ fu  v4 (a2 + (1 : Int32)) M2 _ eM5) tb_415 (List.mem_of_getElem? (i := 24) rfl) tb_414 tb_1 hyX11_one rfl rfl ⟨by decide, by decide⟩ (Nat.le_of_ble_eq_true rfl) dX7_readRequestLine_111 ?_
        refine g_bipush X (pc := 114) (v := 47) dX7_readRequestLine_114 (by decide) ?_
        refine g_icmp_eq X (pc := 116) (tgt := 121) dX7_readRequestLine_116 (by decide) (fun hc => ?_) (fun hc => ?_)
        · have h := (if_pos hc).symm.trans h
          refine g_aload_n X (pc := 121) 0 rfl rfl dX7_readRequestLine_121 ?_
          refine g_iload_n X (pc := 122) 3 rfl rfl dX7_readRequestLine_122 ?_
          refine g_iload_n X (pc := 123) 1 rfl rfl dX7_readRequestLine_123 ?_
          refine g_ldcS X (pc := 124) (List.mem_of_getElem? (i := 0) rfl) dX7_readRequestLine_124 ?_
          obtain ⟨q7, eq7, h⟩ := bd h
          obtain ⟨v9, M8, eM8, h⟩ := b2d h
          refine g_callV X (pc := 126) (M' := M8) (ro := some (pI v9)) (c := 7) rfl (by decide) (as := [pI a3, pI a1, pR (some 0)]) (as' := [pR (some 0), pI a1, pI a3]) (st := []) eq7 (ctX7_isText _ _ _ _ _ _ fu q7 a3 a1 (some 0) M5 _ eM8) tb_1210 tb_1207 tb_1209 ts_45 tb_7 ⟨rfl, hyX7_isText⟩ rfl rfl ⟨by decide, by decide⟩ (Nat.le_of_ble_eq_true rfl) dX7_readRequestLine_126 ?_
          refine g_istore X (pc := 129) [(4, pI v9), (0, pR (some a0)), (1, pI a1), (2, pI a2), (3, pI a3)] (lt_n hn (by decide)) rfl dX7_readRequestLine_129 ?_
          refine g_iload X (pc := 131) 0 rfl dX7_readRequestLine_131 ?_
          refine g_if_ne X (pc := 133) (tgt := 149) dX7_readRequestLine_133 (by decide) (fun hc => ?_) (fun hc => ?_)
          · have h := (if_neg hc).symm.trans h
            refine g_sub [1, 3, 4, 0] [(0, pR (some a0)), (2, pI a2), (3, pI a3), (4, pI v9)] rfl ?_
            exact wX7_readRequestLine_L149 X hE hn fu   a0 a2 a3 v9 M8 h
          · have h := (if_pos hc).symm.trans h
            refine g_aload_n X (pc := 136) 1 rfl rfl dX7_readRequestLine_136 ?_
            refine g_iload_n X (pc := 137) 4 rfl rfl dX7_readRequestLine_137 ?_
            refine g_iload_n X (pc := 138) 2 rfl rfl dX7_readRequestLine_138 ?_
            refine g_ldcS X (pc := 139) (List.mem_of_getElem? (i := 1) rfl) dX7_readRequestLine_139 ?_
            obtain ⟨q10, eq10, h⟩ := bd h
            obtain ⟨v12, M11, eM11, h⟩ := b2d h
            refine g_callV X (pc := 141) (M' := M11) (ro := some (pI v12)) (c := 7) rfl (by decide) (as := [pI a3, pI a1, pR (some 1)]) (as' := [pR (some 1), pI a1, pI a3]) (st := []) eq10 (ctX7_isText _ _ _ _ _ _ fu q10 a3 a1 (some 1) M8 _ eM11) tb_1210 tb_1207 tb_1209 ts_45 tb_7 ⟨rfl, hyX7_isText⟩ rfl rfl ⟨by decide, by decide⟩ (Nat.le_of_ble_eq_true rfl) dX7_readRequestLine_141 ?_
            refine g_if_ne X (pc := 144) (tgt := 149) dX7_readRequestLine_144 (by decide) (fun hc => ?_) (fun hc => ?_)
            · have h := (if_neg hc).symm.trans h
              refine g_sub [1, 3, 4, 0] [(0, pR (some a0)), (2, pI a2), (3, pI a3), (4, pI v9)] rfl ?_
              exact wX7_readRequestLine_L149 X hE hn fu   a0 a2 a3 v9 M11 h
            · have h := (if_pos hc).symm.trans h
              refine g_iconst X (pc := 147) (v := 0) dX7_readRequestLine_147 (by decide) ?_
              obtain ⟨hz, rfl⟩ := rN_some h
              exact g_nreturn X rfl hz hE dX7_readRequestLine_148
        · have h := (if_neg hc).symm.trans h
          refine g_iconst X (pc := 119) (v := 0) dX7_readRequestLine_119 (by decide) ?_
          obtain ⟨hz, rfl⟩ := rN_some h
          exact g_nreturn X rfl hz hE dX7_readRequestLine_120
theorem wX7_readRequestLine_L43 {x : GX} {n0 sl0 : Nat} (X : Cx x cX7_readRequestLine RX7 (some .boolean) n0 sl0 6 130) {out : Int32 × Mm} (hE : Ends x n0 sl0 (some (pI out.1)) out.2) (hn : xn x = 5) (fu : Nat)   : ∀ (n : Nat) (a0 : Nat) (a1 : Int32) (a2 : Int32) (a3 : Int32)  (M : Mm), fX7_readRequestLine_L43 fu  n a0 a1 a2 a3 M = some out → Gw x M 43 [(0, pR (some a0)), (1, pI a1), (2, pI a2), (3, pI a3)] [] := by
  intro n
  induction n with
  | zero =>
    intro a0 a1 a2 a3 M h
    have h : (none : Option (Int32 × Mm)) = some out := h
    cases h
  | succ n ih =>
    intro a0 a1 a2 a3 M h
    rw [fX7_readRequestLine_L43] at h
    refine g_iload_n X (pc := 43) 3 rfl rfl dX7_readRequestLine_43 ?_
    refine g_iload_n X (pc := 44) 1 rfl rfl dX7_readRequestLine_44 ?_
    refine g_icmp_ge X (pc := 45) (tgt := 80) dX7_readRequestLine_45 (by decide) (fun hc => ?_) (fun hc => ?_)
    · have h := (if_pos hc).symm.trans h
      exact wX7_readRequestLine_L80 X hE hn fu   a0 a1 a2 a3 M h
    · have h := (if_neg hc).symm.trans h
      refine g_aload_n X (pc := 48) 0 rfl rfl dX7_readRequestLine_48 ?_
      obtain ⟨v1, ev1, h⟩ := bd h
      refine g_getR X (pc := 49) fk_7_2 rfl rfl ev1 tb_258 dX7_readRequestLine_49 ?_
      refine g_iload_n X (pc := 52) 3 rfl rfl dX7_readRequestLine_52 ?_
      obtain ⟨v3, M2, eM2, h⟩ := b2d h
      refine g_callSN X (pc := 53) (M' := M2) (ro := some (pI v3)) (as := [pR v1, pI a3]) (as' := [pI a3, pR v1]) (st := []) (ctX11_one _ _ _ _ _ _ fu  v1 a3 M _ eM2) tb_415 (List.mem_of_getElem? (i := 24) rfl) tb_414 tb_1 hyX11_one rfl rfl ⟨by decide, by decide⟩ (Nat.le_of_ble_eq_true rfl) dX7_readRequestLine_53 ?_
      refine g_bipush X (pc := 56) (v := 32) dX7_readRequestLine_56 (by decide) ?_
      refine g_icmp_le X (pc := 58) (tgt := 80) dX7_readRequestLine_58 (by decide) (fun hc => ?_) (fun hc => ?_)
      · have h := (if_pos hc).symm.trans h
        exact wX7_readRequestLine_L80 X hE hn fu   a0 a1 a2 a3 M2 h
      · have h := (if_neg hc).symm.trans h
        refine g_aload_n X (pc := 61) 0 rfl rfl dX7_readRequestLine_61 ?_
        obtain ⟨v4, ev4, h⟩ := bd h
        refine g_getR X (pc := 62) fk_7_2 rfl rfl ev4 tb_258 dX7_readRequestLine_62 ?_
        refine g_iload_n X (pc := 65) 3 rfl rfl dX7_readRequestLine_65 ?_
        obtain ⟨v6, M5, eM5, h⟩ := b2d h
        refine g_callSN X (pc := 66) (M' := M5) (ro := some (pI v6)) (as := [pR v4, pI a3]) (as' := [pI a3, pR v4]) (st := []) (ctX11_one _ _ _ _ _ _ fu  v4 a3 M2 _ eM5) tb_415 (List.mem_of_getElem? (i := 24) rfl) tb_414 tb_1 hyX11_one rfl rfl ⟨by decide, by decide⟩ (Nat.le_of_ble_eq_true rfl) dX7_readRequestLine_66 ?_
        refine g_bipush X (pc := 69) (v := 127) dX7_readRequestLine_69 (by decide) ?_
        refine g_icmp_ge X (pc := 71) (tgt := 80) dX7_readRequestLine_71 (by decide) (fun hc => ?_) (fun hc => ?_)
        · have h := (if_pos hc).symm.trans h
          exact wX7_readRequestLine_L80 X hE hn fu   a0 a1 a2 a3 M5 h
        · have h := (if_neg hc).symm.trans h
          refine g_iinc X (pc := 74) 3 [(3, pI (a3 + (1 : Int32))), (0, pR (some a0)), (1, pI a1), (2, pI a2)] rfl (iinc_e (by decide)) (lt_n hn (by decide)) rfl dX7_readRequestLine_74 ?_
          refine g_goto X (pc := 77) (tgt := 43) dX7_readRequestLine_77 (by decide) ?_
          refine g_sub [1, 2, 3, 0] [(0, pR (some a0)), (1, pI a1), (2, pI a2), (3, pI (a3 + (1 : Int32)))] rfl ?_
          exact ih a0 a1 a2 (a3 + (1 : Int32)) M5 h
theorem wX7_readRequestLine_L39 {x : GX} {n0 sl0 : Nat} (X : Cx x cX7_readRequestLine RX7 (some .boolean) n0 sl0 6 130) {out : Int32 × Mm} (hE : Ends x n0 sl0 (some (pI out.1)) out.2) (hn : xn x = 5) (fu : Nat)   (a0 : Nat) (a1 : Int32) (a2 : Int32)  (M : Mm) (h : fX7_readRequestLine_L39 fu  a0 a1 a2 M = some out) : Gw x M 39 [(0, pR (some a0)), (1, pI a1), (2, pI a2)] [] := by
  unfold fX7_readRequestLine_L39 at h
  refine g_iload_n X (pc := 39) 2 rfl rfl dX7_readRequestLine_39 ?_
  refine g_iconst X (pc := 40) (v := 1) dX7_readRequestLine_40 (by decide) ?_
  refine g_iadd X (pc := 41) dX7_readRequestLine_41 ?_
  refine g_istore_n X (pc := 42) [(3, pI (a2 + (1 : Int32))), (0, pR (some a0)), (1, pI a1), (2, pI a2)] rfl (lt_n hn (by decide)) rfl dX7_readRequestLine_42 ?_
  refine g_sub [1, 2, 3, 0] [(0, pR (some a0)), (1, pI a1), (2, pI a2), (3, pI (a2 + (1 : Int32)))] rfl ?_
  exact wX7_readRequestLine_L43 X hE hn fu   fu a0 a1 a2 (a2 + (1 : Int32)) M h
theorem wX7_readRequestLine_L2 {x : GX} {n0 sl0 : Nat} (X : Cx x cX7_readRequestLine RX7 (some .boolean) n0 sl0 6 130) {out : Int32 × Mm} (hE : Ends x n0 sl0 (some (pI out.1)) out.2) (hn : xn x = 5) (fu : Nat)   : ∀ (n : Nat) (a0 : Nat) (a1 : Int32) (a2 : Int32)  (M : Mm), fX7_readRequestLine_L2 fu  n a0 a1 a2 M = some out → Gw x M 2 [(0, pR (some a0)), (1, pI a1), (2, pI a2)] [] := by
  intro n
  induction n with
  | zero =>
    intro a0 a1 a2 M h
    have h : (none : Option (Int32 × Mm)) = some out := h
    cases h
  | succ n ih =>
    intro a0 a1 a2 M h
    rw [fX7_readRequestLine_L2] at h
    refine g_iload_n X (pc := 2) 2 rfl rfl dX7_readRequestLine_2 ?_
    refine g_iload_n X (pc := 3) 1 rfl rfl dX7_readRequestLine_3 ?_
    refine g_icmp_ge X (pc := 4) (tgt := 39) dX7_readRequestLine_4 (by decide) (fun hc => ?_) (fun hc => ?_)
    · have h := (if_pos hc).symm.trans h
      exact wX7_readRequestLine_L39 X hE hn fu   a0 a1 a2 M h
    · have h := (if_neg hc).symm.trans h
      refine g_aload_n X (pc := 7) 0 rfl rfl dX7_readRequestLine_7 ?_
      obtain ⟨v1, ev1, h⟩ := bd h
      refine g_getR X (pc := 8) fk_7_2 rfl rfl ev1 tb_258 dX7_readRequestLine_8 ?_
      refine g_iload_n X (pc := 11) 2 rfl rfl dX7_readRequestLine_11 ?_
      obtain ⟨v3, M2, eM2, h⟩ := b2d h
      refine g_callSN X (pc := 12) (M' := M2) (ro := some (pI v3)) (as := [pR v1, pI a2]) (as' := [pI a2, pR v1]) (st := []) (ctX11_one _ _ _ _ _ _ fu  v1 a2 M _ eM2) tb_415 (List.mem_of_getElem? (i := 24) rfl) tb_414 tb_1 hyX11_one rfl rfl ⟨by decide, by decide⟩ (Nat.le_of_ble_eq_true rfl) dX7_readRequestLine_12 ?_
      refine g_bipush X (pc := 15) (v := 65) dX7_readRequestLine_15 (by decide) ?_
      refine g_icmp_lt X (pc := 17) (tgt := 39) dX7_readRequestLine_17 (by decide) (fun hc => ?_) (fun hc => ?_)
      · have h := (if_pos hc).symm.trans h
        exact wX7_readRequestLine_L39 X hE hn fu   a0 a1 a2 M2 h
      · have h := (if_neg hc).symm.trans h
        refine g_aload_n X (pc := 20) 0 rfl rfl dX7_readRequestLine_20 ?_
        obtain ⟨v4, ev4, h⟩ := bd h
        refine g_getR X (pc := 21) fk_7_2 rfl rfl ev4 tb_258 dX7_readRequestLine_21 ?_
        refine g_iload_n X (pc := 24) 2 rfl rfl dX7_readRequestLine_24 ?_
        obtain ⟨v6, M5, eM5, h⟩ := b2d h
        refine g_callSN X (pc := 25) (M' := M5) (ro := some (pI v6)) (as := [pR v4, pI a2]) (as' := [pI a2, pR v4]) (st := []) (ctX11_one _ _ _ _ _ _ fu  v4 a2 M2 _ eM5) tb_415 (List.mem_of_getElem? (i := 24) rfl) tb_414 tb_1 hyX11_one rfl rfl ⟨by decide, by decide⟩ (Nat.le_of_ble_eq_true rfl) dX7_readRequestLine_25 ?_
        refine g_bipush X (pc := 28) (v := 90) dX7_readRequestLine_28 (by decide) ?_
        refine g_icmp_gt X (pc := 30) (tgt := 39) dX7_readRequestLine_30 (by decide) (fun hc => ?_) (fun hc => ?_)
        · have h := (if_pos hc).symm.trans h
          exact wX7_readRequestLine_L39 X hE hn fu   a0 a1 a2 M5 h
        · have h := (if_neg hc).symm.trans h
          refine g_iinc X (pc := 33) 2 [(2, pI (a2 + (1 : Int32))), (0, pR (some a0)), (1, pI a1)] rfl (iinc_e (by decide)) (lt_n hn (by decide)) rfl dX7_readRequestLine_33 ?_
          refine g_goto X (pc := 36) (tgt := 2) dX7_readRequestLine_36 (by decide) ?_
          refine g_sub [1, 2, 0] [(0, pR (some a0)), (1, pI a1), (2, pI (a2 + (1 : Int32)))] rfl ?_
          exact ih a0 a1 (a2 + (1 : Int32)) M5 h
theorem wX7_readRequestLine {x : GX} {n0 sl0 : Nat} (X : Cx x cX7_readRequestLine RX7 (some .boolean) n0 sl0 6 130) {out : Int32 × Mm} (hE : Ends x n0 sl0 (some (pI out.1)) out.2) (hn : xn x = 5) (fu : Nat)   (a0 : Nat) (a1 : Int32)  (M : Mm) (h : fX7_readRequestLine fu  a0 a1 M = some out) : Gw x M 0 [(0, pR (some a0)), (1, pI a1)] [] := by
  unfold fX7_readRequestLine at h
  refine g_iconst X (pc := 0) (v := 0) dX7_readRequestLine_0 (by decide) ?_
  refine g_istore_n X (pc := 1) [(2, pI (0 : Int32)), (0, pR (some a0)), (1, pI a1)] rfl (lt_n hn (by decide)) rfl dX7_readRequestLine_1 ?_
  refine g_sub [1, 2, 0] [(0, pR (some a0)), (1, pI a1), (2, pI (0 : Int32))] rfl ?_
  exact wX7_readRequestLine_L2 X hE hn fu   fu a0 a1 (0 : Int32) M h
theorem hyX7_readRequestLine : yX7_readRequestLine.cls ≠ "java/lang/invoke/MethodHandle" ∧ yX7_readRequestLine.cls ≠ "java/lang/invoke/VarHandle" ∧ (parseMethodDescriptor yX7_readRequestLine.desc).map (fun d => d.parameters.length) = some 1 := ⟨by decide +kernel, by decide +kernel, by decide +kernel⟩
theorem ctX7_readRequestLine (l : Launch) (E : Nat → Nat) (D : va_G) (dA : Nat → ClassId) (lo : Nat) (H0 : Heap) (fu : Nat) (a0 : Nat) (a1 : Int32) (M : Mm) (out : Int32 × Mm) (h : fX7_readRequestLine fu a0 a1 M = some out) : Ct l E D dA lo H0 yX7_readRequestLine cX7_readRequestLine 5 (some .boolean) 6 130 [pR (some a0), pI a1] M (some (pI out.1)) out.2 := by
  refine ct_of (by decide +kernel) (Nat.le_of_ble_eq_true rfl) ?_
  intro x hl he hd ha ho hh hn hin X hE
  exact wX7_readRequestLine X hE hn fu a0 a1 M h
/-! java/lang/StringLatin1.canEncode(I)Z -/
def fJ1_canEncode_9a6ad (fu : Nat)  (a0 : Int32)  (M : Mm) : Option (Int32 × Mm) :=
    if a0 < 0 then (
    rN .boolean (0 : Int32) M)
    else (
    if (255 : Int32) < a0 then (
    rN .boolean (0 : Int32) M)
    else (
    rN .boolean (1 : Int32) M))
theorem dJ1_canEncode_9a6ad_0 : decode cJ1_canEncode_9a6ad 0 = .ok (.iload_n 0, 1) := by decide +kernel
theorem dJ1_canEncode_9a6ad_1 : decode cJ1_canEncode_9a6ad 1 = .ok (.ifCond .lt 14, 3) := by decide +kernel
theorem dJ1_canEncode_9a6ad_4 : decode cJ1_canEncode_9a6ad 4 = .ok (.iload_n 0, 1) := by decide +kernel
theorem dJ1_canEncode_9a6ad_5 : decode cJ1_canEncode_9a6ad 5 = .ok (.sipush 255, 3) := by decide +kernel
theorem dJ1_canEncode_9a6ad_8 : decode cJ1_canEncode_9a6ad 8 = .ok (.if_icmp .gt 7, 3) := by decide +kernel
theorem dJ1_canEncode_9a6ad_11 : decode cJ1_canEncode_9a6ad 11 = .ok (.iconst 1, 1) := by decide +kernel
theorem dJ1_canEncode_9a6ad_12 : decode cJ1_canEncode_9a6ad 12 = .ok (.goto 4, 3) := by decide +kernel
theorem dJ1_canEncode_9a6ad_15 : decode cJ1_canEncode_9a6ad 15 = .ok (.iconst 0, 1) := by decide +kernel
theorem dJ1_canEncode_9a6ad_16 : decode cJ1_canEncode_9a6ad 16 = .ok (.ireturn, 1) := by decide +kernel
theorem wJ1_canEncode_9a6ad {x : GX} {n0 sl0 : Nat} (X : Cx x cJ1_canEncode_9a6ad RJ1 (some .boolean) n0 sl0 0 0) {out : Int32 × Mm} (hE : Ends x n0 sl0 (some (pI out.1)) out.2) (hn : xn x = 1) (fu : Nat)   (a0 : Int32)  (M : Mm) (h : fJ1_canEncode_9a6ad fu  a0 M = some out) : Gw x M 0 [(0, pI a0)] [] := by
  unfold fJ1_canEncode_9a6ad at h
  refine g_iload_n X (pc := 0) 0 rfl rfl dJ1_canEncode_9a6ad_0 ?_
  refine g_if_lt X (pc := 1) (tgt := 15) dJ1_canEncode_9a6ad_1 (by decide) (fun hc => ?_) (fun hc => ?_)
  · have h := (if_pos hc).symm.trans h
    refine g_iconst X (pc := 15) (v := 0) dJ1_canEncode_9a6ad_15 (by decide) ?_
    obtain ⟨hz, rfl⟩ := rN_some h
    exact g_nreturn X rfl hz hE dJ1_canEncode_9a6ad_16
  · have h := (if_neg hc).symm.trans h
    refine g_iload_n X (pc := 4) 0 rfl rfl dJ1_canEncode_9a6ad_4 ?_
    refine g_sipush X (pc := 5) (v := 255) dJ1_canEncode_9a6ad_5 (by decide) ?_
    refine g_icmp_gt X (pc := 8) (tgt := 15) dJ1_canEncode_9a6ad_8 (by decide) (fun hc => ?_) (fun hc => ?_)
    · have h := (if_pos hc).symm.trans h
      refine g_iconst X (pc := 15) (v := 0) dJ1_canEncode_9a6ad_15 (by decide) ?_
      obtain ⟨hz, rfl⟩ := rN_some h
      exact g_nreturn X rfl hz hE dJ1_canEncode_9a6ad_16
    · have h := (if_neg hc).symm.trans h
      refine g_iconst X (pc := 11) (v := 1) dJ1_canEncode_9a6ad_11 (by decide) ?_
      refine g_goto X (pc := 12) (tgt := 16) dJ1_canEncode_9a6ad_12 (by decide) ?_
      obtain ⟨hz, rfl⟩ := rN_some h
      exact g_nreturn X rfl hz hE dJ1_canEncode_9a6ad_16
theorem hyJ1_canEncode_9a6ad : yJ1_canEncode_9a6ad.cls ≠ "java/lang/invoke/MethodHandle" ∧ yJ1_canEncode_9a6ad.cls ≠ "java/lang/invoke/VarHandle" ∧ (parseMethodDescriptor yJ1_canEncode_9a6ad.desc).map (fun d => d.parameters.length) = some 1 := ⟨by decide +kernel, by decide +kernel, by decide +kernel⟩
theorem ctJ1_canEncode_9a6ad (l : Launch) (E : Nat → Nat) (D : va_G) (dA : Nat → ClassId) (lo : Nat) (H0 : Heap) (fu : Nat) (a0 : Int32) (M : Mm) (out : Int32 × Mm) (h : fJ1_canEncode_9a6ad fu a0 M = some out) : Ct l E D dA lo H0 yJ1_canEncode_9a6ad cJ1_canEncode_9a6ad 1 (some .boolean) 0 0 [pI a0] M (some (pI out.1)) out.2 := by
  refine ct_of (by decide +kernel) (Nat.le_of_ble_eq_true rfl) ?_
  intro x hl he hd ha ho hh hn hin X hE
  exact wJ1_canEncode_9a6ad X hE hn fu a0 M h
/-! java/lang/StringLatin1.indexOfChar([BIII)I -/
def fJ1_indexOfChar_4cfef_L7 (fu : Nat)  : Nat → Option Nat → Int32 → Int32 → Int32 → Mm → Option (Int32 × Mm)
  | 0, _, _, _, _, _ => none
  | n + 1, a0, a3, a4, a5, M =>
    if a3 ≤ a5 then (
    some ((-1 : Int32), M))
    else (
    (gAS a0 a5).bind fun v1 =>
    if v1 = a4 then (
    some (a5, M))
    else (
    fJ1_indexOfChar_4cfef_L7 fu  n a0 a3 a4 (a5 + (1 : Int32)) M))
def fJ1_indexOfChar_4cfef (fu : Nat)  (a0 : Option Nat) (a1 : Int32) (a2 : Int32) (a3 : Int32)  (M : Mm) : Option (Int32 × Mm) :=
    fJ1_indexOfChar_4cfef_L7 fu  fu a0 a3 (Int8.toInt32 (Int32.toInt8 a1)) a2 M
theorem dJ1_indexOfChar_4cfef_0 : decode cJ1_indexOfChar_4cfef 0 = .ok (.iload_n 1, 1) := by decide +kernel
theorem dJ1_indexOfChar_4cfef_1 : decode cJ1_indexOfChar_4cfef 1 = .ok (.i2b, 1) := by decide +kernel
theorem dJ1_indexOfChar_4cfef_2 : decode cJ1_indexOfChar_4cfef 2 = .ok (.istore 4, 2) := by decide +kernel
theorem dJ1_indexOfChar_4cfef_4 : decode cJ1_indexOfChar_4cfef 4 = .ok (.iload_n 2, 1) := by decide +kernel
theorem dJ1_indexOfChar_4cfef_5 : decode cJ1_indexOfChar_4cfef 5 = .ok (.istore 5, 2) := by decide +kernel
theorem dJ1_indexOfChar_4cfef_7 : decode cJ1_indexOfChar_4cfef 7 = .ok (.iload 5, 2) := by decide +kernel
theorem dJ1_indexOfChar_4cfef_9 : decode cJ1_indexOfChar_4cfef 9 = .ok (.iload_n 3, 1) := by decide +kernel
theorem dJ1_indexOfChar_4cfef_10 : decode cJ1_indexOfChar_4cfef 10 = .ok (.if_icmp .ge 21, 3) := by decide +kernel
theorem dJ1_indexOfChar_4cfef_13 : decode cJ1_indexOfChar_4cfef 13 = .ok (.aload_n 0, 1) := by decide +kernel
theorem dJ1_indexOfChar_4cfef_14 : decode cJ1_indexOfChar_4cfef 14 = .ok (.iload 5, 2) := by decide +kernel
theorem dJ1_indexOfChar_4cfef_16 : decode cJ1_indexOfChar_4cfef 16 = .ok (.baload, 1) := by decide +kernel
theorem dJ1_indexOfChar_4cfef_17 : decode cJ1_indexOfChar_4cfef 17 = .ok (.iload 4, 2) := by decide +kernel
theorem dJ1_indexOfChar_4cfef_19 : decode cJ1_indexOfChar_4cfef 19 = .ok (.if_icmp .ne 6, 3) := by decide +kernel
theorem dJ1_indexOfChar_4cfef_22 : decode cJ1_indexOfChar_4cfef 22 = .ok (.iload 5, 2) := by decide +kernel
theorem dJ1_indexOfChar_4cfef_24 : decode cJ1_indexOfChar_4cfef 24 = .ok (.ireturn, 1) := by decide +kernel
theorem dJ1_indexOfChar_4cfef_25 : decode cJ1_indexOfChar_4cfef 25 = .ok (.iinc 5 1, 3) := by decide +kernel
theorem dJ1_indexOfChar_4cfef_28 : decode cJ1_indexOfChar_4cfef 28 = .ok (.goto (-21), 3) := by decide +kernel
theorem dJ1_indexOfChar_4cfef_31 : decode cJ1_indexOfChar_4cfef 31 = .ok (.iconst (-1), 1) := by decide +kernel
theorem dJ1_indexOfChar_4cfef_32 : decode cJ1_indexOfChar_4cfef 32 = .ok (.ireturn, 1) := by decide +kernel
theorem wJ1_indexOfChar_4cfef_L7 {x : GX} {n0 sl0 : Nat} (X : Cx x cJ1_indexOfChar_4cfef RJ1 (some .int) n0 sl0 0 0) {out : Int32 × Mm} (hE : Ends x n0 sl0 (some (pI out.1)) out.2) (hn : xn x = 6) (fu : Nat)   : ∀ (n : Nat) (a0 : Option Nat) (a3 : Int32) (a4 : Int32) (a5 : Int32)  (M : Mm), fJ1_indexOfChar_4cfef_L7 fu  n a0 a3 a4 a5 M = some out → Gw x M 7 [(0, pR a0), (3, pI a3), (4, pI a4), (5, pI a5)] [] := by
  intro n
  induction n with
  | zero =>
    intro a0 a3 a4 a5 M h
    have h : (none : Option (Int32 × Mm)) = some out := h
    cases h
  | succ n ih =>
    intro a0 a3 a4 a5 M h
    rw [fJ1_indexOfChar_4cfef_L7] at h
    refine g_iload X (pc := 7) 3 rfl dJ1_indexOfChar_4cfef_7 ?_
    refine g_iload_n X (pc := 9) 1 rfl rfl dJ1_indexOfChar_4cfef_9 ?_
    refine g_icmp_ge X (pc := 10) (tgt := 31) dJ1_indexOfChar_4cfef_10 (by decide) (fun hc => ?_) (fun hc => ?_)
    · have h := (if_pos hc).symm.trans h
      refine g_iconst X (pc := 31) (v := (-1)) dJ1_indexOfChar_4cfef_31 (by decide) ?_
      obtain rfl := Option.some.inj h
      exact g_ireturn X hE dJ1_indexOfChar_4cfef_32
    · have h := (if_neg hc).symm.trans h
      refine g_aload_n X (pc := 13) 0 rfl rfl dJ1_indexOfChar_4cfef_13 ?_
      refine g_iload X (pc := 14) 3 rfl dJ1_indexOfChar_4cfef_14 ?_
      obtain ⟨v1, ev1, h⟩ := bd h
      refine g_baloadS X (pc := 16) ev1 dJ1_indexOfChar_4cfef_16 ?_
      refine g_iload X (pc := 17) 2 rfl dJ1_indexOfChar_4cfef_17 ?_
      refine g_icmp_ne X (pc := 19) (tgt := 25) dJ1_indexOfChar_4cfef_19 (by decide) (fun hc => ?_) (fun hc => ?_)
      · have h := (if_neg hc).symm.trans h
        refine g_iinc X (pc := 25) 3 [(5, pI (a5 + (1 : Int32))), (0, pR a0), (3, pI a3), (4, pI a4)] rfl (iinc_e (by decide)) (lt_n hn (by decide)) rfl dJ1_indexOfChar_4cfef_25 ?_
        refine g_goto X (pc := 28) (tgt := 7) dJ1_indexOfChar_4cfef_28 (by decide) ?_
        refine g_sub [1, 2, 3, 0] [(0, pR a0), (3, pI a3), (4, pI a4), (5, pI (a5 + (1 : Int32)))] rfl ?_
        exact ih a0 a3 a4 (a5 + (1 : Int32)) M h
      · have h := (if_pos hc).symm.trans h
        refine g_iload X (pc := 22) 3 rfl dJ1_indexOfChar_4cfef_22 ?_
        obtain rfl := Option.some.inj h
        exact g_ireturn X hE dJ1_indexOfChar_4cfef_24
theorem wJ1_indexOfChar_4cfef {x : GX} {n0 sl0 : Nat} (X : Cx x cJ1_indexOfChar_4cfef RJ1 (some .int) n0 sl0 0 0) {out : Int32 × Mm} (hE : Ends x n0 sl0 (some (pI out.1)) out.2) (hn : xn x = 6) (fu : Nat)   (a0 : Option Nat) (a1 : Int32) (a2 : Int32) (a3 : Int32)  (M : Mm) (h : fJ1_indexOfChar_4cfef fu  a0 a1 a2 a3 M = some out) : Gw x M 0 [(0, pR a0), (1, pI a1), (2, pI a2), (3, pI a3)] [] := by
  unfold fJ1_indexOfChar_4cfef at h
  refine g_iload_n X (pc := 0) 1 rfl rfl dJ1_indexOfChar_4cfef_0 ?_
  refine g_i2b X (pc := 1) dJ1_indexOfChar_4cfef_1 ?_
  refine g_istore X (pc := 2) [(4, pI (Int8.toInt32 (Int32.toInt8 a1))), (0, pR a0), (1, pI a1), (2, pI a2), (3, pI a3)] (lt_n hn (by decide)) rfl dJ1_indexOfChar_4cfef_2 ?_
  refine g_iload_n X (pc := 4) 3 rfl rfl dJ1_indexOfChar_4cfef_4 ?_
  refine g_istore X (pc := 5) [(5, pI a2), (4, pI (Int8.toInt32 (Int32.toInt8 a1))), (0, pR a0), (1, pI a1), (2, pI a2), (3, pI a3)] (lt_n hn (by decide)) rfl dJ1_indexOfChar_4cfef_5 ?_
  refine g_sub [2, 5, 1, 0] [(0, pR a0), (3, pI a3), (4, pI (Int8.toInt32 (Int32.toInt8 a1))), (5, pI a2)] rfl ?_
  exact wJ1_indexOfChar_4cfef_L7 X hE hn fu   fu a0 a3 (Int8.toInt32 (Int32.toInt8 a1)) a2 M h
theorem hyJ1_indexOfChar_4cfef : yJ1_indexOfChar_4cfef.cls ≠ "java/lang/invoke/MethodHandle" ∧ yJ1_indexOfChar_4cfef.cls ≠ "java/lang/invoke/VarHandle" ∧ (parseMethodDescriptor yJ1_indexOfChar_4cfef.desc).map (fun d => d.parameters.length) = some 4 := ⟨by decide +kernel, by decide +kernel, by decide +kernel⟩
theorem ctJ1_indexOfChar_4cfef (l : Launch) (E : Nat → Nat) (D : va_G) (dA : Nat → ClassId) (lo : Nat) (H0 : Heap) (fu : Nat) (a0 : Option Nat) (a1 : Int32) (a2 : Int32) (a3 : Int32) (M : Mm) (out : Int32 × Mm) (h : fJ1_indexOfChar_4cfef fu a0 a1 a2 a3 M = some out) : Ct l E D dA lo H0 yJ1_indexOfChar_4cfef cJ1_indexOfChar_4cfef 6 (some .int) 0 0 [pR a0, pI a1, pI a2, pI a3] M (some (pI out.1)) out.2 := by
  refine ct_of (by decide +kernel) (Nat.le_of_ble_eq_true rfl) ?_
  intro x hl he hd ha ho hh hn hin X hE
  exact wJ1_indexOfChar_4cfef X hE hn fu a0 a1 a2 a3 M h
