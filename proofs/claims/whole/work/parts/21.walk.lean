/-! ===== walks of methods, printed by a program of ours ===== -/
/-! WebHost$Pace.begin(I)V -/
def fX5_begin_L22 (fu : Nat)  (a0 : Nat) (s0 : Option Nat) (s1 : Int32) (M : Mm) : Option (Mm) :=
    (pF M 5 321 s0 s1).bind fun M1 =>
    (pF M1 5 322 (some a0) (65535 : Int32)).bind fun M2 =>
    (pF M2 5 323 (some a0) (1000 : Int32)).bind fun M3 =>
    (pF M3 5 324 (some a0) (2147483647 : Int32)).bind fun M4 =>
    (pF M4 5 325 (some a0) (0 : Int32)).bind fun M5 =>
    (pF M5 5 326 (some a0) (0 : Int32)).bind fun M6 =>
    (pZ M6 5 327 (some a0) (0 : Int32)).bind fun M7 =>
    (pZ M7 5 328 (some a0) (0 : Int32)).bind fun M8 =>
    (pZ M8 5 331 (some a0) (0 : Int32)).bind fun M9 =>
    (pF M9 5 332 (some a0) (0 : Int32)).bind fun M10 =>
    (pF M10 5 333 (some a0) (0 : Int32)).bind fun M11 =>
    some M11
def fX5_begin (fu : Nat)  (a0 : Nat) (a1 : Int32)  (M : Mm) : Option (Mm) :=
    (pF M 5 320 (some a0) a1).bind fun M1 =>
    if (1095 : Int32) < a1 then (
    fX5_begin_L22 fu  a0 (some a0) ((3 : Int32) * a1) M1)
    else (
    fX5_begin_L22 fu  a0 (some a0) ((4 : Int32) * a1) M1)
theorem dX5_begin_0 : decode cX5_begin 0 = .ok (.aload_n 0, 1) := by decide +kernel
theorem dX5_begin_1 : decode cX5_begin 1 = .ok (.iload_n 1, 1) := by decide +kernel
theorem dX5_begin_2 : decode cX5_begin 2 = .ok (.putfield 9, 3) := by decide +kernel
theorem dX5_begin_5 : decode cX5_begin 5 = .ok (.aload_n 0, 1) := by decide +kernel
theorem dX5_begin_6 : decode cX5_begin 6 = .ok (.iload_n 1, 1) := by decide +kernel
theorem dX5_begin_7 : decode cX5_begin 7 = .ok (.sipush 1095, 3) := by decide +kernel
theorem dX5_begin_10 : decode cX5_begin 10 = .ok (.if_icmp .gt 9, 3) := by decide +kernel
theorem dX5_begin_13 : decode cX5_begin 13 = .ok (.iconst 4, 1) := by decide +kernel
theorem dX5_begin_14 : decode cX5_begin 14 = .ok (.iload_n 1, 1) := by decide +kernel
theorem dX5_begin_15 : decode cX5_begin 15 = .ok (.imul, 1) := by decide +kernel
theorem dX5_begin_16 : decode cX5_begin 16 = .ok (.goto 6, 3) := by decide +kernel
theorem dX5_begin_19 : decode cX5_begin 19 = .ok (.iconst 3, 1) := by decide +kernel
theorem dX5_begin_20 : decode cX5_begin 20 = .ok (.iload_n 1, 1) := by decide +kernel
theorem dX5_begin_21 : decode cX5_begin 21 = .ok (.imul, 1) := by decide +kernel
theorem dX5_begin_22 : decode cX5_begin 22 = .ok (.putfield 15, 3) := by decide +kernel
theorem dX5_begin_25 : decode cX5_begin 25 = .ok (.aload_n 0, 1) := by decide +kernel
theorem dX5_begin_26 : decode cX5_begin 26 = .ok (.ldc 18, 2) := by decide +kernel
theorem dX5_begin_28 : decode cX5_begin 28 = .ok (.putfield 19, 3) := by decide +kernel
theorem dX5_begin_31 : decode cX5_begin 31 = .ok (.aload_n 0, 1) := by decide +kernel
theorem dX5_begin_32 : decode cX5_begin 32 = .ok (.sipush 1000, 3) := by decide +kernel
theorem dX5_begin_35 : decode cX5_begin 35 = .ok (.putfield 22, 3) := by decide +kernel
theorem dX5_begin_38 : decode cX5_begin 38 = .ok (.aload_n 0, 1) := by decide +kernel
theorem dX5_begin_39 : decode cX5_begin 39 = .ok (.ldc 25, 2) := by decide +kernel
theorem dX5_begin_41 : decode cX5_begin 41 = .ok (.putfield 26, 3) := by decide +kernel
theorem dX5_begin_44 : decode cX5_begin 44 = .ok (.aload_n 0, 1) := by decide +kernel
theorem dX5_begin_45 : decode cX5_begin 45 = .ok (.iconst 0, 1) := by decide +kernel
theorem dX5_begin_46 : decode cX5_begin 46 = .ok (.putfield 29, 3) := by decide +kernel
theorem dX5_begin_49 : decode cX5_begin 49 = .ok (.aload_n 0, 1) := by decide +kernel
theorem dX5_begin_50 : decode cX5_begin 50 = .ok (.iconst 0, 1) := by decide +kernel
theorem dX5_begin_51 : decode cX5_begin 51 = .ok (.putfield 32, 3) := by decide +kernel
theorem dX5_begin_54 : decode cX5_begin 54 = .ok (.aload_n 0, 1) := by decide +kernel
theorem dX5_begin_55 : decode cX5_begin 55 = .ok (.iconst 0, 1) := by decide +kernel
theorem dX5_begin_56 : decode cX5_begin 56 = .ok (.putfield 35, 3) := by decide +kernel
theorem dX5_begin_59 : decode cX5_begin 59 = .ok (.aload_n 0, 1) := by decide +kernel
theorem dX5_begin_60 : decode cX5_begin 60 = .ok (.iconst 0, 1) := by decide +kernel
theorem dX5_begin_61 : decode cX5_begin 61 = .ok (.putfield 39, 3) := by decide +kernel
theorem dX5_begin_64 : decode cX5_begin 64 = .ok (.aload_n 0, 1) := by decide +kernel
theorem dX5_begin_65 : decode cX5_begin 65 = .ok (.iconst 0, 1) := by decide +kernel
theorem dX5_begin_66 : decode cX5_begin 66 = .ok (.putfield 42, 3) := by decide +kernel
theorem dX5_begin_69 : decode cX5_begin 69 = .ok (.aload_n 0, 1) := by decide +kernel
theorem dX5_begin_70 : decode cX5_begin 70 = .ok (.iconst 0, 1) := by decide +kernel
theorem dX5_begin_71 : decode cX5_begin 71 = .ok (.putfield 45, 3) := by decide +kernel
theorem dX5_begin_74 : decode cX5_begin 74 = .ok (.aload_n 0, 1) := by decide +kernel
theorem dX5_begin_75 : decode cX5_begin 75 = .ok (.iconst 0, 1) := by decide +kernel
theorem dX5_begin_76 : decode cX5_begin 76 = .ok (.putfield 48, 3) := by decide +kernel
theorem dX5_begin_79 : decode cX5_begin 79 = .ok (.return_, 1) := by decide +kernel
theorem wX5_begin_L22 {x : GX} {n0 sl0 : Nat} (X : Cx x cX5_begin RX5 none n0 sl0 0 0) {out : Mm} (hE : Ends x n0 sl0 none out) (hn : xn x = 2) (fu : Nat)   (a0 : Nat) (s0 : Option Nat) (s1 : Int32) (M : Mm) (h : fX5_begin_L22 fu  a0 s0 s1 M = some out) : Gw x M 22 [(0, pR (some a0))] [pI s1, pR s0] := by
  unfold fX5_begin_L22 at h
  obtain ⟨M1, eM1, h⟩ := bd h
  refine g_putI X (pc := 22) fk_5_1 rfl rfl rfl eM1 tb_903 (Or.inl rfl) dX5_begin_22 ?_
  refine g_aload_n X (pc := 25) 0 rfl rfl dX5_begin_25 ?_
  refine g_ldc X (pc := 26) tb_1066 dX5_begin_26 ?_
  obtain ⟨M2, eM2, h⟩ := bd h
  refine g_putI X (pc := 28) fk_5_2 rfl rfl rfl eM2 tb_905 (Or.inl rfl) dX5_begin_28 ?_
  refine g_aload_n X (pc := 31) 0 rfl rfl dX5_begin_31 ?_
  refine g_sipush X (pc := 32) (v := 1000) dX5_begin_32 (by decide) ?_
  obtain ⟨M3, eM3, h⟩ := bd h
  refine g_putI X (pc := 35) fk_5_3 rfl rfl rfl eM3 tb_907 (Or.inl rfl) dX5_begin_35 ?_
  refine g_aload_n X (pc := 38) 0 rfl rfl dX5_begin_38 ?_
  refine g_ldc X (pc := 39) tb_1067 dX5_begin_39 ?_
  obtain ⟨M4, eM4, h⟩ := bd h
  refine g_putI X (pc := 41) fk_5_4 rfl rfl rfl eM4 tb_910 (Or.inl rfl) dX5_begin_41 ?_
  refine g_aload_n X (pc := 44) 0 rfl rfl dX5_begin_44 ?_
  refine g_iconst X (pc := 45) (v := 0) dX5_begin_45 (by decide) ?_
  obtain ⟨M5, eM5, h⟩ := bd h
  refine g_putI X (pc := 46) fk_5_5 rfl rfl rfl eM5 tb_914 (Or.inl rfl) dX5_begin_46 ?_
  refine g_aload_n X (pc := 49) 0 rfl rfl dX5_begin_49 ?_
  refine g_iconst X (pc := 50) (v := 0) dX5_begin_50 (by decide) ?_
  obtain ⟨M6, eM6, h⟩ := bd h
  refine g_putI X (pc := 51) fk_5_6 rfl rfl rfl eM6 tb_917 (Or.inl rfl) dX5_begin_51 ?_
  refine g_aload_n X (pc := 54) 0 rfl rfl dX5_begin_54 ?_
  refine g_iconst X (pc := 55) (v := 0) dX5_begin_55 (by decide) ?_
  obtain ⟨M7, eM7, h⟩ := bd h
  refine g_putZ X (pc := 56) fk_5_7 rfl rfl rfl eM7 tb_920 (Or.inl rfl) dX5_begin_56 ?_
  refine g_aload_n X (pc := 59) 0 rfl rfl dX5_begin_59 ?_
  refine g_iconst X (pc := 60) (v := 0) dX5_begin_60 (by decide) ?_
  obtain ⟨M8, eM8, h⟩ := bd h
  refine g_putZ X (pc := 61) fk_5_8 rfl rfl rfl eM8 tb_921 (Or.inl rfl) dX5_begin_61 ?_
  refine g_aload_n X (pc := 64) 0 rfl rfl dX5_begin_64 ?_
  refine g_iconst X (pc := 65) (v := 0) dX5_begin_65 (by decide) ?_
  obtain ⟨M9, eM9, h⟩ := bd h
  refine g_putZ X (pc := 66) fk_5_11 rfl rfl rfl eM9 tb_925 (Or.inl rfl) dX5_begin_66 ?_
  refine g_aload_n X (pc := 69) 0 rfl rfl dX5_begin_69 ?_
  refine g_iconst X (pc := 70) (v := 0) dX5_begin_70 (by decide) ?_
  obtain ⟨M10, eM10, h⟩ := bd h
  refine g_putI X (pc := 71) fk_5_12 rfl rfl rfl eM10 tb_926 (Or.inl rfl) dX5_begin_71 ?_
  refine g_aload_n X (pc := 74) 0 rfl rfl dX5_begin_74 ?_
  refine g_iconst X (pc := 75) (v := 0) dX5_begin_75 (by decide) ?_
  obtain ⟨M11, eM11, h⟩ := bd h
  refine g_putI X (pc := 76) fk_5_13 rfl rfl rfl eM11 tb_927 (Or.inl rfl) dX5_begin_76 ?_
  obtain rfl := Option.some.inj h
  exact g_return X hE dX5_begin_79
theorem wX5_begin {x : GX} {n0 sl0 : Nat} (X : Cx x cX5_begin RX5 none n0 sl0 0 0) {out : Mm} (hE : Ends x n0 sl0 none out) (hn : xn x = 2) (fu : Nat)   (a0 : Nat) (a1 : Int32)  (M : Mm) (h : fX5_begin fu  a0 a1 M = some out) : Gw x M 0 [(0, pR (some a0)), (1, pI a1)] [] := by
  unfold fX5_begin at h
  refine g_aload_n X (pc := 0) 0 rfl rfl dX5_begin_0 ?_
  refine g_iload_n X (pc := 1) 1 rfl rfl dX5_begin_1 ?_
  obtain ⟨M1, eM1, h⟩ := bd h
  refine g_putI X (pc := 2) fk_5_0 rfl rfl rfl eM1 tb_901 (Or.inl rfl) dX5_begin_2 ?_
  refine g_aload_n X (pc := 5) 0 rfl rfl dX5_begin_5 ?_
  refine g_iload_n X (pc := 6) 1 rfl rfl dX5_begin_6 ?_
  refine g_sipush X (pc := 7) (v := 1095) dX5_begin_7 (by decide) ?_
  refine g_icmp_gt X (pc := 10) (tgt := 19) dX5_begin_10 (by decide) (fun hc => ?_) (fun hc => ?_)
  · have h := (if_pos hc).symm.trans h
    refine g_iconst X (pc := 19) (v := 3) dX5_begin_19 (by decide) ?_
    refine g_iload_n X (pc := 20) 1 rfl rfl dX5_begin_20 ?_
    refine g_imul X (pc := 21) dX5_begin_21 ?_
    refine g_sub [0] [(0, pR (some a0))] rfl ?_
    exact wX5_begin_L22 X hE hn fu   a0 (some a0) ((3 : Int32) * a1) M1 h
  · have h := (if_neg hc).symm.trans h
    refine g_iconst X (pc := 13) (v := 4) dX5_begin_13 (by decide) ?_
    refine g_iload_n X (pc := 14) 1 rfl rfl dX5_begin_14 ?_
    refine g_imul X (pc := 15) dX5_begin_15 ?_
    refine g_goto X (pc := 16) (tgt := 22) dX5_begin_16 (by decide) ?_
    refine g_sub [0] [(0, pR (some a0))] rfl ?_
    exact wX5_begin_L22 X hE hn fu   a0 (some a0) ((4 : Int32) * a1) M1 h
theorem hyX5_begin : yX5_begin.cls ≠ "java/lang/invoke/MethodHandle" ∧ yX5_begin.cls ≠ "java/lang/invoke/VarHandle" ∧ (parseMethodDescriptor yX5_begin.desc).map (fun d => d.parameters.length) = some 1 := ⟨by decide +kernel, by decide +kernel, by decide +kernel⟩
theorem ctX5_begin (l : Launch) (E : Nat → Nat) (D : va_G) (dA : Nat → ClassId) (lo : Nat) (H0 : Heap) (fu : Nat) (a0 : Nat) (a1 : Int32) (M : Mm) (out : Mm) (h : fX5_begin fu a0 a1 M = some out) : Ct l E D dA lo H0 yX5_begin cX5_begin 2 none 0 0 [pR (some a0), pI a1] M none out := by
  refine ct_of (by decide +kernel) (Nat.le_of_ble_eq_true rfl) ?_
  intro x hl he hd ha ho hh hn hin X hE
  exact wX5_begin X hE hn fu a0 a1 M h
/-! WebHost$Connection.begin(LWebHost$Intake;I)V -/
def fX1_begin (fu : Nat)  (a0 : Nat) (a1 : Option Nat) (a2 : Int32)  (M : Mm) : Option (Mm) :=
    (pF M 1 64 (some a0) (1 : Int32)).bind fun M1 =>
    (gI M1 3 193 a1).bind fun v2 =>
    (pF M1 1 65 (some a0) v2).bind fun M3 =>
    (gI M3 3 194 a1).bind fun v4 =>
    (pF M3 1 66 (some a0) v4).bind fun M5 =>
    (pF M5 1 67 (some a0) a2).bind fun M6 =>
    (pF M6 1 68 (some a0) a2).bind fun M7 =>
    (pF M7 1 69 (some a0) (a2 + (1 : Int32))).bind fun M8 =>
    (pF M8 1 70 (some a0) (a2 + (1 : Int32))).bind fun M9 =>
    (gI M9 3 199 a1).bind fun v10 =>
    (pF M9 1 71 (some a0) v10).bind fun M11 =>
    (gI M11 3 196 a1).bind fun v12 =>
    (pF M11 1 82 (some a0) v12).bind fun M13 =>
    (pF M13 1 83 (some a0) (0 : Int32)).bind fun M14 =>
    (rc M14 1 (some a0)).bind fun q15 =>
    (fX1_clearAnswer fu q15 (a2 + (1 : Int32)) M14).bind fun M16 =>
    (gR M16 1 80 (some a0)).bind fun v17 =>
    (gI M16 3 196 a1).bind fun v18 =>
    (rc M16 0 v17).bind fun q19 =>
    (fX0_begin fu q19 (v18 + (1 : Int32)) M16).bind fun M20 =>
    (gR M20 1 81 (some a0)).bind fun v21 =>
    (rc M20 3 a1).bind fun q22 =>
    b2 (fX3_mss fu q22  M20) fun v24 M23 =>
    (rc M23 5 v21).bind fun q25 =>
    (fX5_begin fu q25 v24 M23).bind fun M26 =>
    some M26
theorem dX1_begin_0 : decode cX1_begin 0 = .ok (.aload_n 0, 1) := by decide +kernel
theorem dX1_begin_1 : decode cX1_begin 1 = .ok (.iconst 1, 1) := by decide +kernel
theorem dX1_begin_2 : decode cX1_begin 2 = .ok (.putfield 29, 3) := by decide +kernel
theorem dX1_begin_5 : decode cX1_begin 5 = .ok (.aload_n 0, 1) := by decide +kernel
theorem dX1_begin_6 : decode cX1_begin 6 = .ok (.aload_n 1, 1) := by decide +kernel
theorem dX1_begin_7 : decode cX1_begin 7 = .ok (.getfield 33, 3) := by decide +kernel
theorem dX1_begin_10 : decode cX1_begin 10 = .ok (.putfield 38, 3) := by decide +kernel
theorem dX1_begin_13 : decode cX1_begin 13 = .ok (.aload_n 0, 1) := by decide +kernel
theorem dX1_begin_14 : decode cX1_begin 14 = .ok (.aload_n 1, 1) := by decide +kernel
theorem dX1_begin_15 : decode cX1_begin 15 = .ok (.getfield 41, 3) := by decide +kernel
theorem dX1_begin_18 : decode cX1_begin 18 = .ok (.putfield 44, 3) := by decide +kernel
theorem dX1_begin_21 : decode cX1_begin 21 = .ok (.aload_n 0, 1) := by decide +kernel
theorem dX1_begin_22 : decode cX1_begin 22 = .ok (.iload_n 2, 1) := by decide +kernel
theorem dX1_begin_23 : decode cX1_begin 23 = .ok (.putfield 47, 3) := by decide +kernel
theorem dX1_begin_26 : decode cX1_begin 26 = .ok (.aload_n 0, 1) := by decide +kernel
theorem dX1_begin_27 : decode cX1_begin 27 = .ok (.iload_n 2, 1) := by decide +kernel
theorem dX1_begin_28 : decode cX1_begin 28 = .ok (.putfield 50, 3) := by decide +kernel
theorem dX1_begin_31 : decode cX1_begin 31 = .ok (.aload_n 0, 1) := by decide +kernel
theorem dX1_begin_32 : decode cX1_begin 32 = .ok (.iload_n 2, 1) := by decide +kernel
theorem dX1_begin_33 : decode cX1_begin 33 = .ok (.iconst 1, 1) := by decide +kernel
theorem dX1_begin_34 : decode cX1_begin 34 = .ok (.iadd, 1) := by decide +kernel
theorem dX1_begin_35 : decode cX1_begin 35 = .ok (.putfield 53, 3) := by decide +kernel
theorem dX1_begin_38 : decode cX1_begin 38 = .ok (.aload_n 0, 1) := by decide +kernel
theorem dX1_begin_39 : decode cX1_begin 39 = .ok (.iload_n 2, 1) := by decide +kernel
theorem dX1_begin_40 : decode cX1_begin 40 = .ok (.iconst 1, 1) := by decide +kernel
theorem dX1_begin_41 : decode cX1_begin 41 = .ok (.iadd, 1) := by decide +kernel
theorem dX1_begin_42 : decode cX1_begin 42 = .ok (.putfield 56, 3) := by decide +kernel
theorem dX1_begin_45 : decode cX1_begin 45 = .ok (.aload_n 0, 1) := by decide +kernel
theorem dX1_begin_46 : decode cX1_begin 46 = .ok (.aload_n 1, 1) := by decide +kernel
theorem dX1_begin_47 : decode cX1_begin 47 = .ok (.getfield 59, 3) := by decide +kernel
theorem dX1_begin_50 : decode cX1_begin 50 = .ok (.putfield 62, 3) := by decide +kernel
theorem dX1_begin_53 : decode cX1_begin 53 = .ok (.aload_n 0, 1) := by decide +kernel
theorem dX1_begin_54 : decode cX1_begin 54 = .ok (.aload_n 1, 1) := by decide +kernel
theorem dX1_begin_55 : decode cX1_begin 55 = .ok (.getfield 63, 3) := by decide +kernel
theorem dX1_begin_58 : decode cX1_begin 58 = .ok (.putfield 66, 3) := by decide +kernel
theorem dX1_begin_61 : decode cX1_begin 61 = .ok (.aload_n 0, 1) := by decide +kernel
theorem dX1_begin_62 : decode cX1_begin 62 = .ok (.iconst 0, 1) := by decide +kernel
theorem dX1_begin_63 : decode cX1_begin 63 = .ok (.putfield 69, 3) := by decide +kernel
theorem dX1_begin_66 : decode cX1_begin 66 = .ok (.aload_n 0, 1) := by decide +kernel
theorem dX1_begin_67 : decode cX1_begin 67 = .ok (.iload_n 2, 1) := by decide +kernel
theorem dX1_begin_68 : decode cX1_begin 68 = .ok (.iconst 1, 1) := by decide +kernel
theorem dX1_begin_69 : decode cX1_begin 69 = .ok (.iadd, 1) := by decide +kernel
theorem dX1_begin_70 : decode cX1_begin 70 = .ok (.invokevirtual 72, 3) := by decide +kernel
theorem dX1_begin_73 : decode cX1_begin 73 = .ok (.aload_n 0, 1) := by decide +kernel
theorem dX1_begin_74 : decode cX1_begin 74 = .ok (.getfield 18, 3) := by decide +kernel
theorem dX1_begin_77 : decode cX1_begin 77 = .ok (.aload_n 1, 1) := by decide +kernel
theorem dX1_begin_78 : decode cX1_begin 78 = .ok (.getfield 63, 3) := by decide +kernel
theorem dX1_begin_81 : decode cX1_begin 81 = .ok (.iconst 1, 1) := by decide +kernel
theorem dX1_begin_82 : decode cX1_begin 82 = .ok (.iadd, 1) := by decide +kernel
theorem dX1_begin_83 : decode cX1_begin 83 = .ok (.invokevirtual 76, 3) := by decide +kernel
theorem dX1_begin_86 : decode cX1_begin 86 = .ok (.aload_n 0, 1) := by decide +kernel
theorem dX1_begin_87 : decode cX1_begin 87 = .ok (.getfield 25, 3) := by decide +kernel
theorem dX1_begin_90 : decode cX1_begin 90 = .ok (.aload_n 1, 1) := by decide +kernel
theorem dX1_begin_91 : decode cX1_begin 91 = .ok (.invokevirtual 79, 3) := by decide +kernel
theorem dX1_begin_94 : decode cX1_begin 94 = .ok (.invokevirtual 83, 3) := by decide +kernel
theorem dX1_begin_97 : decode cX1_begin 97 = .ok (.return_, 1) := by decide +kernel
theorem wX1_begin {x : GX} {n0 sl0 : Nat} (X : Cx x cX1_begin RX1 none n0 sl0 2 44) {out : Mm} (hE : Ends x n0 sl0 none out) (hn : xn x = 3) (fu : Nat)   (a0 : Nat) (a1 : Option Nat) (a2 : Int32)  (M : Mm) (h : fX1_begin fu  a0 a1 a2 M = some out) : Gw x M 0 [(0, pR (some a0)), (1, pR a1), (2, pI a2)] [] := by
  unfold fX1_begin at h
  refine g_aload_n X (pc := 0) 0 rfl rfl dX1_begin_0 ?_
  refine g_iconst X (pc := 1) (v := 1) dX1_begin_1 (by decide) ?_
  obtain ⟨M1, eM1, h⟩ := bd h
  refine g_putI X (pc := 2) fk_1_0 rfl rfl rfl eM1 tb_957 (Or.inl rfl) dX1_begin_2 ?_
  refine g_aload_n X (pc := 5) 0 rfl rfl dX1_begin_5 ?_
  refine g_aload_n X (pc := 6) 1 rfl rfl dX1_begin_6 ?_
  obtain ⟨v2, ev2, h⟩ := bd h
  refine g_getI X (pc := 7) fk_3_1 rfl rfl ev2 tb_160 dX1_begin_7 ?_
  obtain ⟨M3, eM3, h⟩ := bd h
  refine g_putI X (pc := 10) fk_1_1 rfl rfl rfl eM3 tb_961 (Or.inl rfl) dX1_begin_10 ?_
  refine g_aload_n X (pc := 13) 0 rfl rfl dX1_begin_13 ?_
  refine g_aload_n X (pc := 14) 1 rfl rfl dX1_begin_14 ?_
  obtain ⟨v4, ev4, h⟩ := bd h
  refine g_getI X (pc := 15) fk_3_2 rfl rfl ev4 tb_163 dX1_begin_15 ?_
  obtain ⟨M5, eM5, h⟩ := bd h
  refine g_putI X (pc := 18) fk_1_2 rfl rfl rfl eM5 tb_963 (Or.inl rfl) dX1_begin_18 ?_
  refine g_aload_n X (pc := 21) 0 rfl rfl dX1_begin_21 ?_
  refine g_iload_n X (pc := 22) 2 rfl rfl dX1_begin_22 ?_
  obtain ⟨M6, eM6, h⟩ := bd h
  refine g_putI X (pc := 23) fk_1_3 rfl rfl rfl eM6 tb_965 (Or.inl rfl) dX1_begin_23 ?_
  refine g_aload_n X (pc := 26) 0 rfl rfl dX1_begin_26 ?_
  refine g_iload_n X (pc := 27) 2 rfl rfl dX1_begin_27 ?_
  obtain ⟨M7, eM7, h⟩ := bd h
  refine g_putI X (pc := 28) fk_1_4 rfl rfl rfl eM7 tb_967 (Or.inl rfl) dX1_begin_28 ?_
  refine g_aload_n X (pc := 31) 0 rfl rfl dX1_begin_31 ?_
  refine g_iload_n X (pc := 32) 2 rfl rfl dX1_begin_32 ?_
  refine g_iconst X (pc := 33) (v := 1) dX1_begin_33 (by decide) ?_
  refine g_iadd X (pc := 34) dX1_begin_34 ?_
  obtain ⟨M8, eM8, h⟩ := bd h
  refine g_putI X (pc := 35) fk_1_5 rfl rfl rfl eM8 tb_969 (Or.inl rfl) dX1_begin_35 ?_
  refine g_aload_n X (pc := 38) 0 rfl rfl dX1_begin_38 ?_
  refine g_iload_n X (pc := 39) 2 rfl rfl dX1_begin_39 ?_
  refine g_iconst X (pc := 40) (v := 1) dX1_begin_40 (by decide) ?_
  refine g_iadd X (pc := 41) dX1_begin_41 ?_
  obtain ⟨M9, eM9, h⟩ := bd h
  refine g_putI X (pc := 42) fk_1_6 rfl rfl rfl eM9 tb_972 (Or.inl rfl) dX1_begin_42 ?_
  refine g_aload_n X (pc := 45) 0 rfl rfl dX1_begin_45 ?_
  refine g_aload_n X (pc := 46) 1 rfl rfl dX1_begin_46 ?_
  obtain ⟨v10, ev10, h⟩ := bd h
  refine g_getI X (pc := 47) fk_3_7 rfl rfl ev10 tb_176 dX1_begin_47 ?_
  obtain ⟨M11, eM11, h⟩ := bd h
  refine g_putI X (pc := 50) fk_1_7 rfl rfl rfl eM11 tb_974 (Or.inl rfl) dX1_begin_50 ?_
  refine g_aload_n X (pc := 53) 0 rfl rfl dX1_begin_53 ?_
  refine g_aload_n X (pc := 54) 1 rfl rfl dX1_begin_54 ?_
  obtain ⟨v12, ev12, h⟩ := bd h
  refine g_getI X (pc := 55) fk_3_4 rfl rfl ev12 tb_168 dX1_begin_55 ?_
  obtain ⟨M13, eM13, h⟩ := bd h
  refine g_putI X (pc := 58) fk_1_18 rfl rfl rfl eM13 tb_999 (Or.inl rfl) dX1_begin_58 ?_
  refine g_aload_n X (pc := 61) 0 rfl rfl dX1_begin_61 ?_
  refine g_iconst X (pc := 62) (v := 0) dX1_begin_62 (by decide) ?_
  obtain ⟨M14, eM14, h⟩ := bd h
  refine g_putI X (pc := 63) fk_1_19 rfl rfl rfl eM14 tb_1000 (Or.inl rfl) dX1_begin_63 ?_
  refine g_aload_n X (pc := 66) 0 rfl rfl dX1_begin_66 ?_
  refine g_iload_n X (pc := 67) 2 rfl rfl dX1_begin_67 ?_
  refine g_iconst X (pc := 68) (v := 1) dX1_begin_68 (by decide) ?_
  refine g_iadd X (pc := 69) dX1_begin_69 ?_
  obtain ⟨q15, eq15, h⟩ := bd h
  obtain ⟨M16, eM16, h⟩ := bd h
  refine g_callV X (pc := 70) (M' := M16) (ro := none) (c := 1) rfl (by decide) (as := [pI (a2 + (1 : Int32))]) (as' := [pI (a2 + (1 : Int32))]) (st := []) eq15 (ctX1_clearAnswer _ _ _ _ _ _ fu q15 (a2 + (1 : Int32)) M14 _ eM16) tb_1050 tb_1047 tb_1048 tb_1049 tb_18 ⟨rfl, hyX1_clearAnswer⟩ rfl rfl ⟨by decide, by decide⟩ (Nat.le_of_ble_eq_true rfl) dX1_begin_70 ?_
  refine g_aload_n X (pc := 73) 0 rfl rfl dX1_begin_73 ?_
  obtain ⟨v17, ev17, h⟩ := bd h
  refine g_getR X (pc := 74) fk_1_16 rfl rfl ev17 tb_993 dX1_begin_74 ?_
  refine g_aload_n X (pc := 77) 1 rfl rfl dX1_begin_77 ?_
  obtain ⟨v18, ev18, h⟩ := bd h
  refine g_getI X (pc := 78) fk_3_4 rfl rfl ev18 tb_168 dX1_begin_78 ?_
  refine g_iconst X (pc := 81) (v := 1) dX1_begin_81 (by decide) ?_
  refine g_iadd X (pc := 82) dX1_begin_82 ?_
  obtain ⟨q19, eq19, h⟩ := bd h
  obtain ⟨M20, eM20, h⟩ := bd h
  refine g_callV X (pc := 83) (M' := M20) (ro := none) (c := 0) rfl (by decide) (as := [pI (v18 + (1 : Int32))]) (as' := [pI (v18 + (1 : Int32))]) (st := []) eq19 (ctX0_begin _ _ _ _ _ _ fu q19 (v18 + (1 : Int32)) M16 _ eM20) tb_1054 tb_1051 tb_1052 tb_1053 tb_19 ⟨rfl, hyX0_begin⟩ rfl rfl ⟨by decide, by decide⟩ (Nat.le_of_ble_eq_true rfl) dX1_begin_83 ?_
  refine g_aload_n X (pc := 86) 0 rfl rfl dX1_begin_86 ?_
  obtain ⟨v21, ev21, h⟩ := bd h
  refine g_getR X (pc := 87) fk_1_17 rfl rfl ev21 tb_996 dX1_begin_87 ?_
  refine g_aload_n X (pc := 90) 1 rfl rfl dX1_begin_90 ?_
  obtain ⟨q22, eq22, h⟩ := bd h
  obtain ⟨v24, M23, eM23, h⟩ := b2d h
  refine g_callV X (pc := 91) (M' := M23) (ro := some (pI v24)) (c := 3) rfl (by decide) (as := []) (as' := []) (st := [pR v21]) eq22 (ctX3_mss _ _ _ _ _ _ fu q22  M20 _ eM23) tb_1059 tb_1056 tb_1057 tb_1058 tb_5 ⟨rfl, hyX3_mss⟩ rfl rfl ⟨by decide, by decide⟩ (Nat.le_of_ble_eq_true rfl) dX1_begin_91 ?_
  obtain ⟨q25, eq25, h⟩ := bd h
  obtain ⟨M26, eM26, h⟩ := bd h
  refine g_callV X (pc := 94) (M' := M26) (ro := none) (c := 5) rfl (by decide) (as := [pI v24]) (as' := [pI v24]) (st := []) eq25 (ctX5_begin _ _ _ _ _ _ fu q25 v24 M23 _ eM26) tb_1065 tb_1062 tb_1063 tb_1064 tb_20 ⟨rfl, hyX5_begin⟩ rfl rfl ⟨by decide, by decide⟩ (Nat.le_of_ble_eq_true rfl) dX1_begin_94 ?_
  obtain rfl := Option.some.inj h
  exact g_return X hE dX1_begin_97
theorem hyX1_begin : yX1_begin.cls ≠ "java/lang/invoke/MethodHandle" ∧ yX1_begin.cls ≠ "java/lang/invoke/VarHandle" ∧ (parseMethodDescriptor yX1_begin.desc).map (fun d => d.parameters.length) = some 2 := ⟨by decide +kernel, by decide +kernel, by decide +kernel⟩
theorem ctX1_begin (l : Launch) (E : Nat → Nat) (D : va_G) (dA : Nat → ClassId) (lo : Nat) (H0 : Heap) (fu : Nat) (a0 : Nat) (a1 : Option Nat) (a2 : Int32) (M : Mm) (out : Mm) (h : fX1_begin fu a0 a1 a2 M = some out) : Ct l E D dA lo H0 yX1_begin cX1_begin 3 none 2 44 [pR (some a0), pR a1, pI a2] M none out := by
  refine ct_of (by decide +kernel) (Nat.le_of_ble_eq_true rfl) ?_
  intro x hl he hd ha ho hh hn hin X hE
  exact wX1_begin X hE hn fu a0 a1 a2 M h
/-! WebHost$Connection.leave()V -/
def fX1_leave (fu : Nat)  (a0 : Nat)  (M : Mm) : Option (Mm) :=
    (pF M 1 64 (some a0) (0 : Int32)).bind fun M1 =>
    (gR M1 1 81 (some a0)).bind fun v2 =>
    (pF M1 5 324 v2 (2147483647 : Int32)).bind fun M3 =>
    some M3
theorem dX1_leave_0 : decode cX1_leave 0 = .ok (.aload_n 0, 1) := by decide +kernel
theorem dX1_leave_1 : decode cX1_leave 1 = .ok (.iconst 0, 1) := by decide +kernel
theorem dX1_leave_2 : decode cX1_leave 2 = .ok (.putfield 29, 3) := by decide +kernel
theorem dX1_leave_5 : decode cX1_leave 5 = .ok (.aload_n 0, 1) := by decide +kernel
theorem dX1_leave_6 : decode cX1_leave 6 = .ok (.getfield 25, 3) := by decide +kernel
theorem dX1_leave_9 : decode cX1_leave 9 = .ok (.ldc 100, 2) := by decide +kernel
theorem dX1_leave_11 : decode cX1_leave 11 = .ok (.putfield 101, 3) := by decide +kernel
theorem dX1_leave_14 : decode cX1_leave 14 = .ok (.return_, 1) := by decide +kernel
theorem wX1_leave {x : GX} {n0 sl0 : Nat} (X : Cx x cX1_leave RX1 none n0 sl0 0 0) {out : Mm} (hE : Ends x n0 sl0 none out) (hn : xn x = 1) (fu : Nat)   (a0 : Nat)  (M : Mm) (h : fX1_leave fu  a0 M = some out) : Gw x M 0 [(0, pR (some a0))] [] := by
  unfold fX1_leave at h
  refine g_aload_n X (pc := 0) 0 rfl rfl dX1_leave_0 ?_
  refine g_iconst X (pc := 1) (v := 0) dX1_leave_1 (by decide) ?_
  obtain ⟨M1, eM1, h⟩ := bd h
  refine g_putI X (pc := 2) fk_1_0 rfl rfl rfl eM1 tb_957 (Or.inl rfl) dX1_leave_2 ?_
  refine g_aload_n X (pc := 5) 0 rfl rfl dX1_leave_5 ?_
  obtain ⟨v2, ev2, h⟩ := bd h
  refine g_getR X (pc := 6) fk_1_17 rfl rfl ev2 tb_996 dX1_leave_6 ?_
  refine g_ldc X (pc := 9) tb_453 dX1_leave_9 ?_
  obtain ⟨M3, eM3, h⟩ := bd h
  refine g_putI X (pc := 11) fk_5_4 rfl rfl rfl eM3 tb_911 (Or.inl rfl) dX1_leave_11 ?_
  obtain rfl := Option.some.inj h
  exact g_return X hE dX1_leave_14
theorem hyX1_leave : yX1_leave.cls ≠ "java/lang/invoke/MethodHandle" ∧ yX1_leave.cls ≠ "java/lang/invoke/VarHandle" ∧ (parseMethodDescriptor yX1_leave.desc).map (fun d => d.parameters.length) = some 0 := ⟨by decide +kernel, by decide +kernel, by decide +kernel⟩
theorem ctX1_leave (l : Launch) (E : Nat → Nat) (D : va_G) (dA : Nat → ClassId) (lo : Nat) (H0 : Heap) (fu : Nat) (a0 : Nat) (M : Mm) (out : Mm) (h : fX1_leave fu a0 M = some out) : Ct l E D dA lo H0 yX1_leave cX1_leave 1 none 0 0 [pR (some a0)] M none out := by
  refine ct_of (by decide +kernel) (Nat.le_of_ble_eq_true rfl) ?_
  intro x hl he hd ha ho hh hn hin X hE
  exact wX1_leave X hE hn fu a0 M h
/-! java/lang/String.coder()B -/
def fJ0_coder_7d493 (fu : Nat)  (a0 : Nat)  (M : Mm) : Option (Int32 × Mm) :=
    if (1 : Int32) = 0 then (
    rN .byte (1 : Int32) M)
    else (
    (gSc (some a0)).bind fun v1 =>
    rN .byte v1 M)
theorem dJ0_coder_7d493_0 : decode cJ0_coder_7d493 0 = .ok (.getstatic 38, 3) := by decide +kernel
theorem dJ0_coder_7d493_3 : decode cJ0_coder_7d493 3 = .ok (.ifCond .eq 10, 3) := by decide +kernel
theorem dJ0_coder_7d493_6 : decode cJ0_coder_7d493 6 = .ok (.aload_n 0, 1) := by decide +kernel
theorem dJ0_coder_7d493_7 : decode cJ0_coder_7d493 7 = .ok (.getfield 15, 3) := by decide +kernel
theorem dJ0_coder_7d493_10 : decode cJ0_coder_7d493 10 = .ok (.goto 4, 3) := by decide +kernel
theorem dJ0_coder_7d493_13 : decode cJ0_coder_7d493 13 = .ok (.iconst 1, 1) := by decide +kernel
theorem dJ0_coder_7d493_14 : decode cJ0_coder_7d493 14 = .ok (.ireturn, 1) := by decide +kernel
theorem wJ0_coder_7d493 {x : GX} {n0 sl0 : Nat} (X : Cx x cJ0_coder_7d493 RJ0 (some .byte) n0 sl0 0 0) {out : Int32 × Mm} (hE : Ends x n0 sl0 (some (pI out.1)) out.2) (hn : xn x = 1) (fu : Nat)   (a0 : Nat)  (M : Mm) (h : fJ0_coder_7d493 fu  a0 M = some out) : Gw x M 0 [(0, pR (some a0))] [] := by
  unfold fJ0_coder_7d493 at h
  refine g_getsC X (pc := 0) tb_1219 dJ0_coder_7d493_0 ?_
  refine g_if_eq X (pc := 3) (tgt := 13) dJ0_coder_7d493_3 (by decide) (fun hc => ?_) (fun hc => ?_)
  · have h := (if_pos hc).symm.trans h
    refine g_iconst X (pc := 13) (v := 1) dJ0_coder_7d493_13 (by decide) ?_
    obtain ⟨hz, rfl⟩ := rN_some h
    exact g_nreturn X rfl hz hE dJ0_coder_7d493_14
  · have h := (if_neg hc).symm.trans h
    refine g_aload_n X (pc := 6) 0 rfl rfl dJ0_coder_7d493_6 ?_
    obtain ⟨v1, ev1, h⟩ := bd h
    refine g_strC X (pc := 7) ev1 tb_2548 dJ0_coder_7d493_7 ?_
    refine g_goto X (pc := 10) (tgt := 14) dJ0_coder_7d493_10 (by decide) ?_
    obtain ⟨hz, rfl⟩ := rN_some h
    exact g_nreturn X rfl hz hE dJ0_coder_7d493_14
theorem hyJ0_coder_7d493 : yJ0_coder_7d493.cls ≠ "java/lang/invoke/MethodHandle" ∧ yJ0_coder_7d493.cls ≠ "java/lang/invoke/VarHandle" ∧ (parseMethodDescriptor yJ0_coder_7d493.desc).map (fun d => d.parameters.length) = some 0 := ⟨by decide +kernel, by decide +kernel, by decide +kernel⟩
theorem ctJ0_coder_7d493 (l : Launch) (E : Nat → Nat) (D : va_G) (dA : Nat → ClassId) (lo : Nat) (H0 : Heap) (fu : Nat) (a0 : Nat) (M : Mm) (out : Int32 × Mm) (h : fJ0_coder_7d493 fu a0 M = some out) : Ct l E D dA lo H0 yJ0_coder_7d493 cJ0_coder_7d493 1 (some .byte) 0 0 [pR (some a0)] M (some (pI out.1)) out.2 := by
  refine ct_of (by decide +kernel) (Nat.le_of_ble_eq_true rfl) ?_
  intro x hl he hd ha ho hh hn hin X hE
  exact wJ0_coder_7d493 X hE hn fu a0 M h
/-! java/lang/String.length()I -/
def fJ0_length_8abf5 (fu : Nat)  (a0 : Nat)  (M : Mm) : Option (Int32 × Mm) :=
    (gSv (some a0)).bind fun v1 =>
    (aLS v1).bind fun v2 =>
    (rcS (some a0)).bind fun q3 =>
    b2 (fJ0_coder_7d493 fu q3  M) fun v5 M4 =>
    some ((v2 >>> (v5 &&& 31)), M4)
theorem dJ0_length_8abf5_0 : decode cJ0_length_8abf5 0 = .ok (.aload_n 0, 1) := by decide +kernel
theorem dJ0_length_8abf5_1 : decode cJ0_length_8abf5 1 = .ok (.getfield 9, 3) := by decide +kernel
theorem dJ0_length_8abf5_4 : decode cJ0_length_8abf5 4 = .ok (.arraylength, 1) := by decide +kernel
theorem dJ0_length_8abf5_5 : decode cJ0_length_8abf5 5 = .ok (.aload_n 0, 1) := by decide +kernel
theorem dJ0_length_8abf5_6 : decode cJ0_length_8abf5 6 = .ok (.invokevirtual 335, 3) := by decide +kernel
theorem dJ0_length_8abf5_9 : decode cJ0_length_8abf5 9 = .ok (.ishr, 1) := by decide +kernel
theorem dJ0_length_8abf5_10 : decode cJ0_length_8abf5 10 = .ok (.ireturn, 1) := by decide +kernel
theorem wJ0_length_8abf5 {x : GX} {n0 sl0 : Nat} (X : Cx x cJ0_length_8abf5 RJ0 (some .int) n0 sl0 1 20) {out : Int32 × Mm} (hE : Ends x n0 sl0 (some (pI out.1)) out.2) (hn : xn x = 1) (fu : Nat)   (a0 : Nat)  (M : Mm) (h : fJ0_length_8abf5 fu  a0 M = some out) : Gw x M 0 [(0, pR (some a0))] [] := by
  unfold fJ0_length_8abf5 at h
  refine g_aload_n X (pc := 0) 0 rfl rfl dJ0_length_8abf5_0 ?_
  obtain ⟨v1, ev1, h⟩ := bd h
  refine g_strV X (pc := 1) ev1 tb_2547 dJ0_length_8abf5_1 ?_
  obtain ⟨v2, ev2, h⟩ := bd h
  refine g_alenS X (pc := 4) ev2 dJ0_length_8abf5_4 ?_
  refine g_aload_n X (pc := 5) 0 rfl rfl dJ0_length_8abf5_5 ?_
  obtain ⟨q3, eq3, h⟩ := bd h
  obtain ⟨v5, M4, eM4, h⟩ := b2d h
  refine g_callVS X (pc := 6) (M' := M4) (ro := some (pI v5)) (as := []) (as' := []) (st := [pI v2]) eq3 (ctJ0_coder_7d493 _ _ _ _ _ _ fu q3  M _ eM4) tb_1218 tb_1215 tb_1216 tb_1217 tb_21 ⟨rfl, hyJ0_coder_7d493⟩ rfl rfl ⟨by decide, by decide⟩ (Nat.le_of_ble_eq_true rfl) dJ0_length_8abf5_6 ?_
  refine g_ishr X (pc := 9) dJ0_length_8abf5_9 ?_
  obtain rfl := Option.some.inj h
  exact g_ireturn X hE dJ0_length_8abf5_10
theorem hyJ0_length_8abf5 : yJ0_length_8abf5.cls ≠ "java/lang/invoke/MethodHandle" ∧ yJ0_length_8abf5.cls ≠ "java/lang/invoke/VarHandle" ∧ (parseMethodDescriptor yJ0_length_8abf5.desc).map (fun d => d.parameters.length) = some 0 := ⟨by decide +kernel, by decide +kernel, by decide +kernel⟩
theorem ctJ0_length_8abf5 (l : Launch) (E : Nat → Nat) (D : va_G) (dA : Nat → ClassId) (lo : Nat) (H0 : Heap) (fu : Nat) (a0 : Nat) (M : Mm) (out : Int32 × Mm) (h : fJ0_length_8abf5 fu a0 M = some out) : Ct l E D dA lo H0 yJ0_length_8abf5 cJ0_length_8abf5 1 (some .int) 1 20 [pR (some a0)] M (some (pI out.1)) out.2 := by
  refine ct_of (by decide +kernel) (Nat.le_of_ble_eq_true rfl) ?_
  intro x hl he hd ha ho hh hn hin X hE
  exact wJ0_length_8abf5 X hE hn fu a0 M h
/-! java/lang/String.isLatin1()Z -/
def fJ0_isLatin1_aae02 (fu : Nat)  (a0 : Nat)  (M : Mm) : Option (Int32 × Mm) :=
    if (1 : Int32) = 0 then (
    rN .boolean (0 : Int32) M)
    else (
    (gSc (some a0)).bind fun v1 =>
    if v1 = 0 then (
    rN .boolean (1 : Int32) M)
    else (
    rN .boolean (0 : Int32) M))
theorem dJ0_isLatin1_aae02_0 : decode cJ0_isLatin1_aae02 0 = .ok (.getstatic 38, 3) := by decide +kernel
theorem dJ0_isLatin1_aae02_3 : decode cJ0_isLatin1_aae02 3 = .ok (.ifCond .eq 14, 3) := by decide +kernel
theorem dJ0_isLatin1_aae02_6 : decode cJ0_isLatin1_aae02 6 = .ok (.aload_n 0, 1) := by decide +kernel
theorem dJ0_isLatin1_aae02_7 : decode cJ0_isLatin1_aae02 7 = .ok (.getfield 15, 3) := by decide +kernel
theorem dJ0_isLatin1_aae02_10 : decode cJ0_isLatin1_aae02 10 = .ok (.ifCond .ne 7, 3) := by decide +kernel
theorem dJ0_isLatin1_aae02_13 : decode cJ0_isLatin1_aae02 13 = .ok (.iconst 1, 1) := by decide +kernel
theorem dJ0_isLatin1_aae02_14 : decode cJ0_isLatin1_aae02 14 = .ok (.goto 4, 3) := by decide +kernel
theorem dJ0_isLatin1_aae02_17 : decode cJ0_isLatin1_aae02 17 = .ok (.iconst 0, 1) := by decide +kernel
theorem dJ0_isLatin1_aae02_18 : decode cJ0_isLatin1_aae02 18 = .ok (.ireturn, 1) := by decide +kernel
theorem wJ0_isLatin1_aae02 {x : GX} {n0 sl0 : Nat} (X : Cx x cJ0_isLatin1_aae02 RJ0 (some .boolean) n0 sl0 0 0) {out : Int32 × Mm} (hE : Ends x n0 sl0 (some (pI out.1)) out.2) (hn : xn x = 1) (fu : Nat)   (a0 : Nat)  (M : Mm) (h : fJ0_isLatin1_aae02 fu  a0 M = some out) : Gw x M 0 [(0, pR (some a0))] [] := by
  unfold fJ0_isLatin1_aae02 at h
  refine g_getsC X (pc := 0) tb_1219 dJ0_isLatin1_aae02_0 ?_
  refine g_if_eq X (pc := 3) (tgt := 17) dJ0_isLatin1_aae02_3 (by decide) (fun hc => ?_) (fun hc => ?_)
  · have h := (if_pos hc).symm.trans h
    refine g_iconst X (pc := 17) (v := 0) dJ0_isLatin1_aae02_17 (by decide) ?_
    obtain ⟨hz, rfl⟩ := rN_some h
    exact g_nreturn X rfl hz hE dJ0_isLatin1_aae02_18
  · have h := (if_neg hc).symm.trans h
    refine g_aload_n X (pc := 6) 0 rfl rfl dJ0_isLatin1_aae02_6 ?_
    obtain ⟨v1, ev1, h⟩ := bd h
    refine g_strC X (pc := 7) ev1 tb_2548 dJ0_isLatin1_aae02_7 ?_
    refine g_if_ne X (pc := 10) (tgt := 17) dJ0_isLatin1_aae02_10 (by decide) (fun hc => ?_) (fun hc => ?_)
    · have h := (if_neg hc).symm.trans h
      refine g_iconst X (pc := 17) (v := 0) dJ0_isLatin1_aae02_17 (by decide) ?_
      obtain ⟨hz, rfl⟩ := rN_some h
      exact g_nreturn X rfl hz hE dJ0_isLatin1_aae02_18
    · have h := (if_pos hc).symm.trans h
      refine g_iconst X (pc := 13) (v := 1) dJ0_isLatin1_aae02_13 (by decide) ?_
      refine g_goto X (pc := 14) (tgt := 18) dJ0_isLatin1_aae02_14 (by decide) ?_
      obtain ⟨hz, rfl⟩ := rN_some h
      exact g_nreturn X rfl hz hE dJ0_isLatin1_aae02_18
theorem hyJ0_isLatin1_aae02 : yJ0_isLatin1_aae02.cls ≠ "java/lang/invoke/MethodHandle" ∧ yJ0_isLatin1_aae02.cls ≠ "java/lang/invoke/VarHandle" ∧ (parseMethodDescriptor yJ0_isLatin1_aae02.desc).map (fun d => d.parameters.length) = some 0 := ⟨by decide +kernel, by decide +kernel, by decide +kernel⟩
theorem ctJ0_isLatin1_aae02 (l : Launch) (E : Nat → Nat) (D : va_G) (dA : Nat → ClassId) (lo : Nat) (H0 : Heap) (fu : Nat) (a0 : Nat) (M : Mm) (out : Int32 × Mm) (h : fJ0_isLatin1_aae02 fu a0 M = some out) : Ct l E D dA lo H0 yJ0_isLatin1_aae02 cJ0_isLatin1_aae02 1 (some .boolean) 0 0 [pR (some a0)] M (some (pI out.1)) out.2 := by
  refine ct_of (by decide +kernel) (Nat.le_of_ble_eq_true rfl) ?_
  intro x hl he hd ha ho hh hn hin X hE
  exact wJ0_isLatin1_aae02 X hE hn fu a0 M h
/-! jdk/internal/util/Preconditions.checkIndex(IILjava/util/function/BiFunction;)I -/
def fJ3_checkIndex_8e157_L9 (fu : Nat)  (a0 : Int32) (a1 : Int32) (a2 : Option Nat)  (M : Mm) : Option (Int32 × Mm) :=
    none
def fJ3_checkIndex_8e157 (fu : Nat)  (a0 : Int32) (a1 : Int32) (a2 : Option Nat)  (M : Mm) : Option (Int32 × Mm) :=
    if a0 < 0 then (
    fJ3_checkIndex_8e157_L9 fu  a0 a1 a2 M)
    else (
    if a0 < a1 then (
    some (a0, M))
    else (
    fJ3_checkIndex_8e157_L9 fu  a0 a1 a2 M))
theorem dJ3_checkIndex_8e157_0 : decode cJ3_checkIndex_8e157 0 = .ok (.iload_n 0, 1) := by decide +kernel
theorem dJ3_checkIndex_8e157_1 : decode cJ3_checkIndex_8e157 1 = .ok (.ifCond .lt 8, 3) := by decide +kernel
theorem dJ3_checkIndex_8e157_4 : decode cJ3_checkIndex_8e157 4 = .ok (.iload_n 0, 1) := by decide +kernel
theorem dJ3_checkIndex_8e157_5 : decode cJ3_checkIndex_8e157 5 = .ok (.iload_n 1, 1) := by decide +kernel
theorem dJ3_checkIndex_8e157_6 : decode cJ3_checkIndex_8e157 6 = .ok (.if_icmp .lt 10, 3) := by decide +kernel
theorem dJ3_checkIndex_8e157_9 : decode cJ3_checkIndex_8e157 9 = .ok (.aload_n 2, 1) := by decide +kernel
theorem dJ3_checkIndex_8e157_10 : decode cJ3_checkIndex_8e157 10 = .ok (.iload_n 0, 1) := by decide +kernel
theorem dJ3_checkIndex_8e157_11 : decode cJ3_checkIndex_8e157 11 = .ok (.iload_n 1, 1) := by decide +kernel
theorem dJ3_checkIndex_8e157_16 : decode cJ3_checkIndex_8e157 16 = .ok (.iload_n 0, 1) := by decide +kernel
theorem dJ3_checkIndex_8e157_17 : decode cJ3_checkIndex_8e157 17 = .ok (.ireturn, 1) := by decide +kernel
theorem wJ3_checkIndex_8e157_L9 {x : GX} {n0 sl0 : Nat} (X : Cx x cJ3_checkIndex_8e157 RJ3 (some .int) n0 sl0 0 0) {out : Int32 × Mm} (hE : Ends x n0 sl0 (some (pI out.1)) out.2) (hn : xn x = 3) (fu : Nat)   (a0 : Int32) (a1 : Int32) (a2 : Option Nat)  (M : Mm) (h : fJ3_checkIndex_8e157_L9 fu  a0 a1 a2 M = some out) : Gw x M 9 [(0, pI a0), (1, pI a1), (2, pR a2)] [] := by
  unfold fJ3_checkIndex_8e157_L9 at h
  refine g_aload_n X (pc := 9) 2 rfl rfl dJ3_checkIndex_8e157_9 ?_
  refine g_iload_n X (pc := 10) 0 rfl rfl dJ3_checkIndex_8e157_10 ?_
  refine g_iload_n X (pc := 11) 1 rfl rfl dJ3_checkIndex_8e157_11 ?_
  cases h
theorem wJ3_checkIndex_8e157 {x : GX} {n0 sl0 : Nat} (X : Cx x cJ3_checkIndex_8e157 RJ3 (some .int) n0 sl0 0 0) {out : Int32 × Mm} (hE : Ends x n0 sl0 (some (pI out.1)) out.2) (hn : xn x = 3) (fu : Nat)   (a0 : Int32) (a1 : Int32) (a2 : Option Nat)  (M : Mm) (h : fJ3_checkIndex_8e157 fu  a0 a1 a2 M = some out) : Gw x M 0 [(0, pI a0), (1, pI a1), (2, pR a2)] [] := by
  unfold fJ3_checkIndex_8e157 at h
  refine g_iload_n X (pc := 0) 0 rfl rfl dJ3_checkIndex_8e157_0 ?_
  refine g_if_lt X (pc := 1) (tgt := 9) dJ3_checkIndex_8e157_1 (by decide) (fun hc => ?_) (fun hc => ?_)
  · have h := (if_pos hc).symm.trans h
    exact wJ3_checkIndex_8e157_L9 X hE hn fu   a0 a1 a2 M h
  · have h := (if_neg hc).symm.trans h
    refine g_iload_n X (pc := 4) 0 rfl rfl dJ3_checkIndex_8e157_4 ?_
    refine g_iload_n X (pc := 5) 1 rfl rfl dJ3_checkIndex_8e157_5 ?_
    refine g_icmp_lt X (pc := 6) (tgt := 16) dJ3_checkIndex_8e157_6 (by decide) (fun hc => ?_) (fun hc => ?_)
    · have h := (if_pos hc).symm.trans h
      refine g_iload_n X (pc := 16) 0 rfl rfl dJ3_checkIndex_8e157_16 ?_
      obtain rfl := Option.some.inj h
      exact g_ireturn X hE dJ3_checkIndex_8e157_17
    · have h := (if_neg hc).symm.trans h
      exact wJ3_checkIndex_8e157_L9 X hE hn fu   a0 a1 a2 M h
theorem hyJ3_checkIndex_8e157 : yJ3_checkIndex_8e157.cls ≠ "java/lang/invoke/MethodHandle" ∧ yJ3_checkIndex_8e157.cls ≠ "java/lang/invoke/VarHandle" ∧ (parseMethodDescriptor yJ3_checkIndex_8e157.desc).map (fun d => d.parameters.length) = some 3 := ⟨by decide +kernel, by decide +kernel, by decide +kernel⟩
theorem ctJ3_checkIndex_8e157 (l : Launch) (E : Nat → Nat) (D : va_G) (dA : Nat → ClassId) (lo : Nat) (H0 : Heap) (fu : Nat) (a0 : Int32) (a1 : Int32) (a2 : Option Nat) (M : Mm) (out : Int32 × Mm) (h : fJ3_checkIndex_8e157 fu a0 a1 a2 M = some out) : Ct l E D dA lo H0 yJ3_checkIndex_8e157 cJ3_checkIndex_8e157 3 (some .int) 0 0 [pI a0, pI a1, pR a2] M (some (pI out.1)) out.2 := by
  refine ct_of (by decide +kernel) (Nat.le_of_ble_eq_true rfl) ?_
  intro x hl he hd ha ho hh hn hin X hE
  exact wJ3_checkIndex_8e157 X hE hn fu a0 a1 a2 M h
/-! java/lang/String.checkIndex(II)V -/
def fJ0_checkIndex_df160 (fu : Nat)  (a0 : Int32) (a1 : Int32)  (M : Mm) : Option (Mm) :=
    b2 (fJ3_checkIndex_8e157 fu  a0 a1 (none) M) fun v2 M1 =>
    some M1
theorem dJ0_checkIndex_df160_0 : decode cJ0_checkIndex_df160 0 = .ok (.iload_n 0, 1) := by decide +kernel
theorem dJ0_checkIndex_df160_1 : decode cJ0_checkIndex_df160 1 = .ok (.iload_n 1, 1) := by decide +kernel
theorem dJ0_checkIndex_df160_2 : decode cJ0_checkIndex_df160 2 = .ok (.getstatic 1053, 3) := by decide +kernel
theorem dJ0_checkIndex_df160_5 : decode cJ0_checkIndex_df160 5 = .ok (.invokestatic 1059, 3) := by decide +kernel
theorem dJ0_checkIndex_df160_8 : decode cJ0_checkIndex_df160 8 = .ok (.pop, 1) := by decide +kernel
theorem dJ0_checkIndex_df160_9 : decode cJ0_checkIndex_df160 9 = .ok (.return_, 1) := by decide +kernel
theorem wJ0_checkIndex_df160 {x : GX} {n0 sl0 : Nat} (X : Cx x cJ0_checkIndex_df160 RJ0 none n0 sl0 1 22) {out : Mm} (hE : Ends x n0 sl0 none out) (hn : xn x = 2) (fu : Nat)   (a0 : Int32) (a1 : Int32)  (M : Mm) (h : fJ0_checkIndex_df160 fu  a0 a1 M = some out) : Gw x M 0 [(0, pI a0), (1, pI a1)] [] := by
  unfold fJ0_checkIndex_df160 at h
  refine g_iload_n X (pc := 0) 0 rfl rfl dJ0_checkIndex_df160_0 ?_
  refine g_iload_n X (pc := 1) 1 rfl rfl dJ0_checkIndex_df160_1 ?_
  refine g_getsF X (pc := 2) tb_1235 dJ0_checkIndex_df160_2 (fun o9 => ?_)
  obtain ⟨v2, M1, eM1, h⟩ := b2d h
  refine g_callS X (pc := 5) (M' := M1) (ro := some (pI v2)) (as := [pI a0, pI a1, pR (o9)]) (as' := [pR (o9), pI a1, pI a0]) (st := []) (ctJ3_checkIndex_8e157 _ _ _ _ _ _ fu  a0 a1 (o9) M _ eM1) tb_1239 tb_1237 tb_1238 tb_23 hyJ3_checkIndex_8e157 rfl rfl ⟨by decide, by decide⟩ (Nat.le_of_ble_eq_true rfl) dJ0_checkIndex_df160_5 ?_
  refine g_pop X (pc := 8) rfl dJ0_checkIndex_df160_8 ?_
  obtain rfl := Option.some.inj h
  exact g_return X hE dJ0_checkIndex_df160_9
theorem hyJ0_checkIndex_df160 : yJ0_checkIndex_df160.cls ≠ "java/lang/invoke/MethodHandle" ∧ yJ0_checkIndex_df160.cls ≠ "java/lang/invoke/VarHandle" ∧ (parseMethodDescriptor yJ0_checkIndex_df160.desc).map (fun d => d.parameters.length) = some 2 := ⟨by decide +kernel, by decide +kernel, by decide +kernel⟩
theorem ctJ0_checkIndex_df160 (l : Launch) (E : Nat → Nat) (D : va_G) (dA : Nat → ClassId) (lo : Nat) (H0 : Heap) (fu : Nat) (a0 : Int32) (a1 : Int32) (M : Mm) (out : Mm) (h : fJ0_checkIndex_df160 fu a0 a1 M = some out) : Ct l E D dA lo H0 yJ0_checkIndex_df160 cJ0_checkIndex_df160 2 none 1 22 [pI a0, pI a1] M none out := by
  refine ct_of (by decide +kernel) (Nat.le_of_ble_eq_true rfl) ?_
  intro x hl he hd ha ho hh hn hin X hE
  exact wJ0_checkIndex_df160 X hE hn fu a0 a1 M h
/-! java/lang/StringLatin1.charAt([BI)C -/
def fJ1_charAt_3b067 (fu : Nat)  (a0 : Option Nat) (a1 : Int32)  (M : Mm) : Option (Int32 × Mm) :=
    (aLS a0).bind fun v1 =>
    (fJ0_checkIndex_df160 fu  a1 v1 M).bind fun M2 =>
    (gAS a0 a1).bind fun v3 =>
    rN .char (i2c (v3 &&& (255 : Int32))) M2
theorem dJ1_charAt_3b067_0 : decode cJ1_charAt_3b067 0 = .ok (.iload_n 1, 1) := by decide +kernel
theorem dJ1_charAt_3b067_1 : decode cJ1_charAt_3b067 1 = .ok (.aload_n 0, 1) := by decide +kernel
theorem dJ1_charAt_3b067_2 : decode cJ1_charAt_3b067 2 = .ok (.arraylength, 1) := by decide +kernel
theorem dJ1_charAt_3b067_3 : decode cJ1_charAt_3b067 3 = .ok (.invokestatic 9, 3) := by decide +kernel
theorem dJ1_charAt_3b067_6 : decode cJ1_charAt_3b067 6 = .ok (.aload_n 0, 1) := by decide +kernel
theorem dJ1_charAt_3b067_7 : decode cJ1_charAt_3b067 7 = .ok (.iload_n 1, 1) := by decide +kernel
theorem dJ1_charAt_3b067_8 : decode cJ1_charAt_3b067 8 = .ok (.baload, 1) := by decide +kernel
theorem dJ1_charAt_3b067_9 : decode cJ1_charAt_3b067 9 = .ok (.sipush 255, 3) := by decide +kernel
theorem dJ1_charAt_3b067_12 : decode cJ1_charAt_3b067 12 = .ok (.iand, 1) := by decide +kernel
theorem dJ1_charAt_3b067_13 : decode cJ1_charAt_3b067 13 = .ok (.i2c, 1) := by decide +kernel
theorem dJ1_charAt_3b067_14 : decode cJ1_charAt_3b067 14 = .ok (.ireturn, 1) := by decide +kernel
theorem wJ1_charAt_3b067 {x : GX} {n0 sl0 : Nat} (X : Cx x cJ1_charAt_3b067 RJ1 (some .char) n0 sl0 2 43) {out : Int32 × Mm} (hE : Ends x n0 sl0 (some (pI out.1)) out.2) (hn : xn x = 2) (fu : Nat)   (a0 : Option Nat) (a1 : Int32)  (M : Mm) (h : fJ1_charAt_3b067 fu  a0 a1 M = some out) : Gw x M 0 [(0, pR a0), (1, pI a1)] [] := by
  unfold fJ1_charAt_3b067 at h
  refine g_iload_n X (pc := 0) 1 rfl rfl dJ1_charAt_3b067_0 ?_
  refine g_aload_n X (pc := 1) 0 rfl rfl dJ1_charAt_3b067_1 ?_
  obtain ⟨v1, ev1, h⟩ := bd h
  refine g_alenS X (pc := 2) ev1 dJ1_charAt_3b067_2 ?_
  obtain ⟨M2, eM2, h⟩ := bd h
  refine g_callS X (pc := 3) (M' := M2) (ro := none) (as := [pI a1, pI v1]) (as' := [pI v1, pI a1]) (st := []) (ctJ0_checkIndex_df160 _ _ _ _ _ _ fu  a1 v1 M _ eM2) tb_1234 tb_1232 tb_1233 tb_21 hyJ0_checkIndex_df160 rfl rfl ⟨by decide, by decide⟩ (Nat.le_of_ble_eq_true rfl) dJ1_charAt_3b067_3 ?_
  refine g_aload_n X (pc := 6) 0 rfl rfl dJ1_charAt_3b067_6 ?_
  refine g_iload_n X (pc := 7) 1 rfl rfl dJ1_charAt_3b067_7 ?_
  obtain ⟨v3, ev3, h⟩ := bd h
  refine g_baloadS X (pc := 8) ev3 dJ1_charAt_3b067_8 ?_
  refine g_sipush X (pc := 9) (v := 255) dJ1_charAt_3b067_9 (by decide) ?_
  refine g_iand X (pc := 12) dJ1_charAt_3b067_12 ?_
  refine g_i2c X (pc := 13) dJ1_charAt_3b067_13 ?_
  obtain ⟨hz, rfl⟩ := rN_some h
  exact g_nreturn X rfl hz hE dJ1_charAt_3b067_14
theorem hyJ1_charAt_3b067 : yJ1_charAt_3b067.cls ≠ "java/lang/invoke/MethodHandle" ∧ yJ1_charAt_3b067.cls ≠ "java/lang/invoke/VarHandle" ∧ (parseMethodDescriptor yJ1_charAt_3b067.desc).map (fun d => d.parameters.length) = some 2 := ⟨by decide +kernel, by decide +kernel, by decide +kernel⟩
theorem ctJ1_charAt_3b067 (l : Launch) (E : Nat → Nat) (D : va_G) (dA : Nat → ClassId) (lo : Nat) (H0 : Heap) (fu : Nat) (a0 : Option Nat) (a1 : Int32) (M : Mm) (out : Int32 × Mm) (h : fJ1_charAt_3b067 fu a0 a1 M = some out) : Ct l E D dA lo H0 yJ1_charAt_3b067 cJ1_charAt_3b067 2 (some .char) 2 43 [pR a0, pI a1] M (some (pI out.1)) out.2 := by
  refine ct_of (by decide +kernel) (Nat.le_of_ble_eq_true rfl) ?_
  intro x hl he hd ha ho hh hn hin X hE
  exact wJ1_charAt_3b067 X hE hn fu a0 a1 M h
/-! java/lang/StringUTF16.length([B)I -/
def fJ2_length_9d52b (fu : Nat)  (a0 : Option Nat)  (M : Mm) : Option (Int32 × Mm) :=
    (aL M 100 a0).bind fun v1 =>
    some ((v1 >>> ((1 : Int32) &&& 31)), M)
theorem dJ2_length_9d52b_0 : decode cJ2_length_9d52b 0 = .ok (.aload_n 0, 1) := by decide +kernel
theorem dJ2_length_9d52b_1 : decode cJ2_length_9d52b 1 = .ok (.arraylength, 1) := by decide +kernel
theorem dJ2_length_9d52b_2 : decode cJ2_length_9d52b 2 = .ok (.iconst 1, 1) := by decide +kernel
theorem dJ2_length_9d52b_3 : decode cJ2_length_9d52b 3 = .ok (.ishr, 1) := by decide +kernel
theorem dJ2_length_9d52b_4 : decode cJ2_length_9d52b 4 = .ok (.ireturn, 1) := by decide +kernel
theorem wJ2_length_9d52b {x : GX} {n0 sl0 : Nat} (X : Cx x cJ2_length_9d52b RJ2 (some .int) n0 sl0 0 0) {out : Int32 × Mm} (hE : Ends x n0 sl0 (some (pI out.1)) out.2) (hn : xn x = 1) (fu : Nat)   (a0 : Option Nat)  (M : Mm) (h : fJ2_length_9d52b fu  a0 M = some out) : Gw x M 0 [(0, pR a0)] [] := by
  unfold fJ2_length_9d52b at h
  refine g_aload_n X (pc := 0) 0 rfl rfl dJ2_length_9d52b_0 ?_
  obtain ⟨v1, ev1, h⟩ := bd h
  refine g_alen X (pc := 1) (k := 0) rfl (by decide) ev1 dJ2_length_9d52b_1 ?_
  refine g_iconst X (pc := 2) (v := 1) dJ2_length_9d52b_2 (by decide) ?_
  refine g_ishr X (pc := 3) dJ2_length_9d52b_3 ?_
  obtain rfl := Option.some.inj h
  exact g_ireturn X hE dJ2_length_9d52b_4
theorem hyJ2_length_9d52b : yJ2_length_9d52b.cls ≠ "java/lang/invoke/MethodHandle" ∧ yJ2_length_9d52b.cls ≠ "java/lang/invoke/VarHandle" ∧ (parseMethodDescriptor yJ2_length_9d52b.desc).map (fun d => d.parameters.length) = some 1 := ⟨by decide +kernel, by decide +kernel, by decide +kernel⟩
theorem ctJ2_length_9d52b (l : Launch) (E : Nat → Nat) (D : va_G) (dA : Nat → ClassId) (lo : Nat) (H0 : Heap) (fu : Nat) (a0 : Option Nat) (M : Mm) (out : Int32 × Mm) (h : fJ2_length_9d52b fu a0 M = some out) : Ct l E D dA lo H0 yJ2_length_9d52b cJ2_length_9d52b 1 (some .int) 0 0 [pR a0] M (some (pI out.1)) out.2 := by
  refine ct_of (by decide +kernel) (Nat.le_of_ble_eq_true rfl) ?_
  intro x hl he hd ha ho hh hn hin X hE
  exact wJ2_length_9d52b X hE hn fu a0 M h
/-! java/lang/StringUTF16.checkIndex(I[B)V -/
def fJ2_checkIndex_2214a (fu : Nat)  (a0 : Int32) (a1 : Option Nat)  (M : Mm) : Option (Mm) :=
    b2 (fJ2_length_9d52b fu  a1 M) fun v2 M1 =>
    (fJ0_checkIndex_df160 fu  a0 v2 M1).bind fun M3 =>
    some M3
theorem dJ2_checkIndex_2214a_0 : decode cJ2_checkIndex_2214a 0 = .ok (.iload_n 0, 1) := by decide +kernel
theorem dJ2_checkIndex_2214a_1 : decode cJ2_checkIndex_2214a 1 = .ok (.aload_n 1, 1) := by decide +kernel
theorem dJ2_checkIndex_2214a_2 : decode cJ2_checkIndex_2214a 2 = .ok (.invokestatic 48, 3) := by decide +kernel
theorem dJ2_checkIndex_2214a_5 : decode cJ2_checkIndex_2214a 5 = .ok (.invokestatic 414, 3) := by decide +kernel
theorem dJ2_checkIndex_2214a_8 : decode cJ2_checkIndex_2214a 8 = .ok (.return_, 1) := by decide +kernel
theorem wJ2_checkIndex_2214a {x : GX} {n0 sl0 : Nat} (X : Cx x cJ2_checkIndex_2214a RJ2 none n0 sl0 2 43) {out : Mm} (hE : Ends x n0 sl0 none out) (hn : xn x = 2) (fu : Nat)   (a0 : Int32) (a1 : Option Nat)  (M : Mm) (h : fJ2_checkIndex_2214a fu  a0 a1 M = some out) : Gw x M 0 [(0, pI a0), (1, pR a1)] [] := by
  unfold fJ2_checkIndex_2214a at h
  refine g_iload_n X (pc := 0) 0 rfl rfl dJ2_checkIndex_2214a_0 ?_
  refine g_aload_n X (pc := 1) 1 rfl rfl dJ2_checkIndex_2214a_1 ?_
  obtain ⟨v2, M1, eM1, h⟩ := b2d h
  refine g_callS X (pc := 2) (M' := M1) (ro := some (pI v2)) (as := [pR a1]) (as' := [pR a1]) (st := [pI a0]) (ctJ2_length_9d52b _ _ _ _ _ _ fu  a1 M _ eM1) tb_1248 tb_1246 tb_1247 tb_24 hyJ2_length_9d52b rfl rfl ⟨by decide, by decide⟩ (Nat.le_of_ble_eq_true rfl) dJ2_checkIndex_2214a_2 ?_
  obtain ⟨M3, eM3, h⟩ := bd h
  refine g_callS X (pc := 5) (M' := M3) (ro := none) (as := [pI a0, pI v2]) (as' := [pI v2, pI a0]) (st := []) (ctJ0_checkIndex_df160 _ _ _ _ _ _ fu  a0 v2 M1 _ eM3) tb_1234 tb_1249 tb_1233 tb_21 hyJ0_checkIndex_df160 rfl rfl ⟨by decide, by decide⟩ (Nat.le_of_ble_eq_true rfl) dJ2_checkIndex_2214a_5 ?_
  obtain rfl := Option.some.inj h
  exact g_return X hE dJ2_checkIndex_2214a_8
theorem hyJ2_checkIndex_2214a : yJ2_checkIndex_2214a.cls ≠ "java/lang/invoke/MethodHandle" ∧ yJ2_checkIndex_2214a.cls ≠ "java/lang/invoke/VarHandle" ∧ (parseMethodDescriptor yJ2_checkIndex_2214a.desc).map (fun d => d.parameters.length) = some 2 := ⟨by decide +kernel, by decide +kernel, by decide +kernel⟩
theorem ctJ2_checkIndex_2214a (l : Launch) (E : Nat → Nat) (D : va_G) (dA : Nat → ClassId) (lo : Nat) (H0 : Heap) (fu : Nat) (a0 : Int32) (a1 : Option Nat) (M : Mm) (out : Mm) (h : fJ2_checkIndex_2214a fu a0 a1 M = some out) : Ct l E D dA lo H0 yJ2_checkIndex_2214a cJ2_checkIndex_2214a 2 none 2 43 [pI a0, pR a1] M none out := by
  refine ct_of (by decide +kernel) (Nat.le_of_ble_eq_true rfl) ?_
  intro x hl he hd ha ho hh hn hin X hE
  exact wJ2_checkIndex_2214a X hE hn fu a0 a1 M h
/-! java/lang/StringUTF16.charAt([BI)C -/
def fJ2_charAt_3b067 (fu : Nat)  (a0 : Option Nat) (a1 : Int32)  (M : Mm) : Option (Int32 × Mm) :=
    (fJ2_checkIndex_2214a fu  a1 a0 M).bind fun M1 =>
    none
theorem dJ2_charAt_3b067_0 : decode cJ2_charAt_3b067 0 = .ok (.iload_n 1, 1) := by decide +kernel
theorem dJ2_charAt_3b067_1 : decode cJ2_charAt_3b067 1 = .ok (.aload_n 0, 1) := by decide +kernel
theorem dJ2_charAt_3b067_2 : decode cJ2_charAt_3b067 2 = .ok (.invokestatic 67, 3) := by decide +kernel
theorem dJ2_charAt_3b067_5 : decode cJ2_charAt_3b067 5 = .ok (.aload_n 0, 1) := by decide +kernel
theorem dJ2_charAt_3b067_6 : decode cJ2_charAt_3b067 6 = .ok (.iload_n 1, 1) := by decide +kernel
theorem dJ2_charAt_3b067_7 : decode cJ2_charAt_3b067 7 = .ok (.invokestatic 71, 3) := by decide +kernel
theorem wJ2_charAt_3b067 {x : GX} {n0 sl0 : Nat} (X : Cx x cJ2_charAt_3b067 RJ2 (some .char) n0 sl0 3 64) {out : Int32 × Mm} (hE : Ends x n0 sl0 (some (pI out.1)) out.2) (hn : xn x = 2) (fu : Nat)   (a0 : Option Nat) (a1 : Int32)  (M : Mm) (h : fJ2_charAt_3b067 fu  a0 a1 M = some out) : Gw x M 0 [(0, pR a0), (1, pI a1)] [] := by
  unfold fJ2_charAt_3b067 at h
  refine g_iload_n X (pc := 0) 1 rfl rfl dJ2_charAt_3b067_0 ?_
  refine g_aload_n X (pc := 1) 0 rfl rfl dJ2_charAt_3b067_1 ?_
  obtain ⟨M1, eM1, h⟩ := bd h
  refine g_callS X (pc := 2) (M' := M1) (ro := none) (as := [pI a1, pR a0]) (as' := [pR a0, pI a1]) (st := []) (ctJ2_checkIndex_2214a _ _ _ _ _ _ fu  a1 a0 M _ eM1) tb_1245 tb_1243 tb_1244 tb_24 hyJ2_checkIndex_2214a rfl rfl ⟨by decide, by decide⟩ (Nat.le_of_ble_eq_true rfl) dJ2_charAt_3b067_2 ?_
  refine g_aload_n X (pc := 5) 0 rfl rfl dJ2_charAt_3b067_5 ?_
  refine g_iload_n X (pc := 6) 1 rfl rfl dJ2_charAt_3b067_6 ?_
  cases h
theorem hyJ2_charAt_3b067 : yJ2_charAt_3b067.cls ≠ "java/lang/invoke/MethodHandle" ∧ yJ2_charAt_3b067.cls ≠ "java/lang/invoke/VarHandle" ∧ (parseMethodDescriptor yJ2_charAt_3b067.desc).map (fun d => d.parameters.length) = some 2 := ⟨by decide +kernel, by decide +kernel, by decide +kernel⟩
theorem ctJ2_charAt_3b067 (l : Launch) (E : Nat → Nat) (D : va_G) (dA : Nat → ClassId) (lo : Nat) (H0 : Heap) (fu : Nat) (a0 : Option Nat) (a1 : Int32) (M : Mm) (out : Int32 × Mm) (h : fJ2_charAt_3b067 fu a0 a1 M = some out) : Ct l E D dA lo H0 yJ2_charAt_3b067 cJ2_charAt_3b067 2 (some .char) 3 64 [pR a0, pI a1] M (some (pI out.1)) out.2 := by
  refine ct_of (by decide +kernel) (Nat.le_of_ble_eq_true rfl) ?_
  intro x hl he hd ha ho hh hn hin X hE
  exact wJ2_charAt_3b067 X hE hn fu a0 a1 M h
/-! java/lang/String.charAt(I)C -/
def fJ0_charAt_5068e (fu : Nat)  (a0 : Nat) (a1 : Int32)  (M : Mm) : Option (Int32 × Mm) :=
    (rcS (some a0)).bind fun q1 =>
    b2 (fJ0_isLatin1_aae02 fu q1  M) fun v3 M2 =>
    if v3 = 0 then (
    (gSv (some a0)).bind fun v4 =>
    b2 (fJ2_charAt_3b067 fu  v4 a1 M2) fun v6 M5 =>
    rN .char v6 M5)
    else (
    (gSv (some a0)).bind fun v7 =>
    b2 (fJ1_charAt_3b067 fu  v7 a1 M2) fun v9 M8 =>
    rN .char v9 M8)
theorem dJ0_charAt_5068e_0 : decode cJ0_charAt_5068e 0 = .ok (.aload_n 0, 1) := by decide +kernel
theorem dJ0_charAt_5068e_1 : decode cJ0_charAt_5068e 1 = .ok (.invokevirtual 492, 3) := by decide +kernel
theorem dJ0_charAt_5068e_4 : decode cJ0_charAt_5068e 4 = .ok (.ifCond .eq 12, 3) := by decide +kernel
theorem dJ0_charAt_5068e_7 : decode cJ0_charAt_5068e 7 = .ok (.aload_n 0, 1) := by decide +kernel
theorem dJ0_charAt_5068e_8 : decode cJ0_charAt_5068e 8 = .ok (.getfield 9, 3) := by decide +kernel
theorem dJ0_charAt_5068e_11 : decode cJ0_charAt_5068e 11 = .ok (.iload_n 1, 1) := by decide +kernel
theorem dJ0_charAt_5068e_12 : decode cJ0_charAt_5068e 12 = .ok (.invokestatic 495, 3) := by decide +kernel
theorem dJ0_charAt_5068e_15 : decode cJ0_charAt_5068e 15 = .ok (.ireturn, 1) := by decide +kernel
theorem dJ0_charAt_5068e_16 : decode cJ0_charAt_5068e 16 = .ok (.aload_n 0, 1) := by decide +kernel
theorem dJ0_charAt_5068e_17 : decode cJ0_charAt_5068e 17 = .ok (.getfield 9, 3) := by decide +kernel
theorem dJ0_charAt_5068e_20 : decode cJ0_charAt_5068e 20 = .ok (.iload_n 1, 1) := by decide +kernel
theorem dJ0_charAt_5068e_21 : decode cJ0_charAt_5068e 21 = .ok (.invokestatic 498, 3) := by decide +kernel
theorem dJ0_charAt_5068e_24 : decode cJ0_charAt_5068e 24 = .ok (.ireturn, 1) := by decide +kernel
theorem wJ0_charAt_5068e {x : GX} {n0 sl0 : Nat} (X : Cx x cJ0_charAt_5068e RJ0 (some .char) n0 sl0 4 85) {out : Int32 × Mm} (hE : Ends x n0 sl0 (some (pI out.1)) out.2) (hn : xn x = 2) (fu : Nat)   (a0 : Nat) (a1 : Int32)  (M : Mm) (h : fJ0_charAt_5068e fu  a0 a1 M = some out) : Gw x M 0 [(0, pR (some a0)), (1, pI a1)] [] := by
  unfold fJ0_charAt_5068e at h
  refine g_aload_n X (pc := 0) 0 rfl rfl dJ0_charAt_5068e_0 ?_
  obtain ⟨q1, eq1, h⟩ := bd h
  obtain ⟨v3, M2, eM2, h⟩ := b2d h
  refine g_callVS X (pc := 1) (M' := M2) (ro := some (pI v3)) (as := []) (as' := []) (st := []) eq1 (ctJ0_isLatin1_aae02 _ _ _ _ _ _ fu q1  M _ eM2) tb_1228 tb_1225 tb_1226 tb_1227 tb_21 ⟨rfl, hyJ0_isLatin1_aae02⟩ rfl rfl ⟨by decide, by decide⟩ (Nat.le_of_ble_eq_true rfl) dJ0_charAt_5068e_1 ?_
  refine g_if_eq X (pc := 4) (tgt := 16) dJ0_charAt_5068e_4 (by decide) (fun hc => ?_) (fun hc => ?_)
  · have h := (if_pos hc).symm.trans h
    refine g_aload_n X (pc := 16) 0 rfl rfl dJ0_charAt_5068e_16 ?_
    obtain ⟨v4, ev4, h⟩ := bd h
    refine g_strV X (pc := 17) ev4 tb_2547 dJ0_charAt_5068e_17 ?_
    refine g_iload_n X (pc := 20) 1 rfl rfl dJ0_charAt_5068e_20 ?_
    obtain ⟨v6, M5, eM5, h⟩ := b2d h
    refine g_callS X (pc := 21) (M' := M5) (ro := some (pI v6)) (as := [pR v4, pI a1]) (as' := [pI a1, pR v4]) (st := []) (ctJ2_charAt_3b067 _ _ _ _ _ _ fu  v4 a1 M2 _ eM5) tb_1242 tb_1240 tb_1241 tb_24 hyJ2_charAt_3b067 rfl rfl ⟨by decide, by decide⟩ (Nat.le_of_ble_eq_true rfl) dJ0_charAt_5068e_21 ?_
    obtain ⟨hz, rfl⟩ := rN_some h
    exact g_nreturn X rfl hz hE dJ0_charAt_5068e_24
  · have h := (if_neg hc).symm.trans h
    refine g_aload_n X (pc := 7) 0 rfl rfl dJ0_charAt_5068e_7 ?_
    obtain ⟨v7, ev7, h⟩ := bd h
    refine g_strV X (pc := 8) ev7 tb_2547 dJ0_charAt_5068e_8 ?_
    refine g_iload_n X (pc := 11) 1 rfl rfl dJ0_charAt_5068e_11 ?_
    obtain ⟨v9, M8, eM8, h⟩ := b2d h
    refine g_callS X (pc := 12) (M' := M8) (ro := some (pI v9)) (as := [pR v7, pI a1]) (as' := [pI a1, pR v7]) (st := []) (ctJ1_charAt_3b067 _ _ _ _ _ _ fu  v7 a1 M2 _ eM8) tb_1231 tb_1229 tb_1230 tb_22 hyJ1_charAt_3b067 rfl rfl ⟨by decide, by decide⟩ (Nat.le_of_ble_eq_true rfl) dJ0_charAt_5068e_12 ?_
    obtain ⟨hz, rfl⟩ := rN_some h
    exact g_nreturn X rfl hz hE dJ0_charAt_5068e_15
theorem hyJ0_charAt_5068e : yJ0_charAt_5068e.cls ≠ "java/lang/invoke/MethodHandle" ∧ yJ0_charAt_5068e.cls ≠ "java/lang/invoke/VarHandle" ∧ (parseMethodDescriptor yJ0_charAt_5068e.desc).map (fun d => d.parameters.length) = some 1 := ⟨by decide +kernel, by decide +kernel, by decide +kernel⟩
theorem ctJ0_charAt_5068e (l : Launch) (E : Nat → Nat) (D : va_G) (dA : Nat → ClassId) (lo : Nat) (H0 : Heap) (fu : Nat) (a0 : Nat) (a1 : Int32) (M : Mm) (out : Int32 × Mm) (h : fJ0_charAt_5068e fu a0 a1 M = some out) : Ct l E D dA lo H0 yJ0_charAt_5068e cJ0_charAt_5068e 2 (some .char) 4 85 [pR (some a0), pI a1] M (some (pI out.1)) out.2 := by
  refine ct_of (by decide +kernel) (Nat.le_of_ble_eq_true rfl) ?_
  intro x hl he hd ha ho hh hn hin X hE
  exact wJ0_charAt_5068e X hE hn fu a0 a1 M h
/-! WebHost$Connection.writeCode(I)V -/
def fX1_writeCode (fu : Nat)  (a0 : Nat) (a1 : Int32)  (M : Mm) : Option (Mm) :=
    (gI M 1 78 (some a0)).bind fun v1 =>
    if (256 : Int32) ≤ v1 then (
    some M)
    else (
    (gR M 1 79 (some a0)).bind fun v2 =>
    (gI M 1 78 (some a0)).bind fun v3 =>
    (pA M 100 v2 v3 (Int8.toInt32 (Int32.toInt8 (Int8.toInt32 (Int32.toInt8 a1))))).bind fun M4 =>
    (gI M4 1 78 (some a0)).bind fun v5 =>
    (pF M4 1 78 (some a0) (v5 + (1 : Int32))).bind fun M6 =>
    some M6)
theorem dX1_writeCode_0 : decode cX1_writeCode 0 = .ok (.aload_n 0, 1) := by decide +kernel
theorem dX1_writeCode_1 : decode cX1_writeCode 1 = .ok (.getfield 87, 3) := by decide +kernel
theorem dX1_writeCode_4 : decode cX1_writeCode 4 = .ok (.sipush 256, 3) := by decide +kernel
theorem dX1_writeCode_7 : decode cX1_writeCode 7 = .ok (.if_icmp .ge 24, 3) := by decide +kernel
theorem dX1_writeCode_10 : decode cX1_writeCode 10 = .ok (.aload_n 0, 1) := by decide +kernel
theorem dX1_writeCode_11 : decode cX1_writeCode 11 = .ok (.getfield 11, 3) := by decide +kernel
theorem dX1_writeCode_14 : decode cX1_writeCode 14 = .ok (.aload_n 0, 1) := by decide +kernel
theorem dX1_writeCode_15 : decode cX1_writeCode 15 = .ok (.getfield 87, 3) := by decide +kernel
theorem dX1_writeCode_18 : decode cX1_writeCode 18 = .ok (.iload_n 1, 1) := by decide +kernel
theorem dX1_writeCode_19 : decode cX1_writeCode 19 = .ok (.i2b, 1) := by decide +kernel
theorem dX1_writeCode_20 : decode cX1_writeCode 20 = .ok (.bastore, 1) := by decide +kernel
theorem dX1_writeCode_21 : decode cX1_writeCode 21 = .ok (.aload_n 0, 1) := by decide +kernel
theorem dX1_writeCode_22 : decode cX1_writeCode 22 = .ok (.dup, 1) := by decide +kernel
theorem dX1_writeCode_23 : decode cX1_writeCode 23 = .ok (.getfield 87, 3) := by decide +kernel
theorem dX1_writeCode_26 : decode cX1_writeCode 26 = .ok (.iconst 1, 1) := by decide +kernel
theorem dX1_writeCode_27 : decode cX1_writeCode 27 = .ok (.iadd, 1) := by decide +kernel
theorem dX1_writeCode_28 : decode cX1_writeCode 28 = .ok (.putfield 87, 3) := by decide +kernel
theorem dX1_writeCode_31 : decode cX1_writeCode 31 = .ok (.return_, 1) := by decide +kernel
theorem wX1_writeCode {x : GX} {n0 sl0 : Nat} (X : Cx x cX1_writeCode RX1 none n0 sl0 0 0) {out : Mm} (hE : Ends x n0 sl0 none out) (hn : xn x = 2) (fu : Nat)   (a0 : Nat) (a1 : Int32)  (M : Mm) (h : fX1_writeCode fu  a0 a1 M = some out) : Gw x M 0 [(0, pR (some a0)), (1, pI a1)] [] := by
  unfold fX1_writeCode at h
  refine g_aload_n X (pc := 0) 0 rfl rfl dX1_writeCode_0 ?_
  obtain ⟨v1, ev1, h⟩ := bd h
  refine g_getI X (pc := 1) fk_1_14 rfl rfl ev1 tb_989 dX1_writeCode_1 ?_
  refine g_sipush X (pc := 4) (v := 256) dX1_writeCode_4 (by decide) ?_
  refine g_icmp_ge X (pc := 7) (tgt := 31) dX1_writeCode_7 (by decide) (fun hc => ?_) (fun hc => ?_)
  · have h := (if_pos hc).symm.trans h
    obtain rfl := Option.some.inj h
    exact g_return X hE dX1_writeCode_31
  · have h := (if_neg hc).symm.trans h
    refine g_aload_n X (pc := 10) 0 rfl rfl dX1_writeCode_10 ?_
    obtain ⟨v2, ev2, h⟩ := bd h
    refine g_getR X (pc := 11) fk_1_15 rfl rfl ev2 tb_991 dX1_writeCode_11 ?_
    refine g_aload_n X (pc := 14) 0 rfl rfl dX1_writeCode_14 ?_
    obtain ⟨v3, ev3, h⟩ := bd h
    refine g_getI X (pc := 15) fk_1_14 rfl rfl ev3 tb_989 dX1_writeCode_15 ?_
    refine g_iload_n X (pc := 18) 1 rfl rfl dX1_writeCode_18 ?_
    refine g_i2b X (pc := 19) dX1_writeCode_19 ?_
    obtain ⟨M4, eM4, h⟩ := bd h
    refine g_bastore X (pc := 20) eM4 dX1_writeCode_20 ?_
    refine g_aload_n X (pc := 21) 0 rfl rfl dX1_writeCode_21 ?_
    refine g_dup X (pc := 22) rfl dX1_writeCode_22 ?_
    obtain ⟨v5, ev5, h⟩ := bd h
    refine g_getI X (pc := 23) fk_1_14 rfl rfl ev5 tb_989 dX1_writeCode_23 ?_
    refine g_iconst X (pc := 26) (v := 1) dX1_writeCode_26 (by decide) ?_
    refine g_iadd X (pc := 27) dX1_writeCode_27 ?_
    obtain ⟨M6, eM6, h⟩ := bd h
    refine g_putI X (pc := 28) fk_1_14 rfl rfl rfl eM6 tb_989 (Or.inl rfl) dX1_writeCode_28 ?_
    obtain rfl := Option.some.inj h
    exact g_return X hE dX1_writeCode_31
theorem hyX1_writeCode : yX1_writeCode.cls ≠ "java/lang/invoke/MethodHandle" ∧ yX1_writeCode.cls ≠ "java/lang/invoke/VarHandle" ∧ (parseMethodDescriptor yX1_writeCode.desc).map (fun d => d.parameters.length) = some 1 := ⟨by decide +kernel, by decide +kernel, by decide +kernel⟩
theorem ctX1_writeCode (l : Launch) (E : Nat → Nat) (D : va_G) (dA : Nat → ClassId) (lo : Nat) (H0 : Heap) (fu : Nat) (a0 : Nat) (a1 : Int32) (M : Mm) (out : Mm) (h : fX1_writeCode fu a0 a1 M = some out) : Ct l E D dA lo H0 yX1_writeCode cX1_writeCode 2 none 0 0 [pR (some a0), pI a1] M none out := by
  refine ct_of (by decide +kernel) (Nat.le_of_ble_eq_true rfl) ?_
  intro x hl he hd ha ho hh hn hin X hE
  exact wX1_writeCode X hE hn fu a0 a1 M h
/-! WebHost$Connection.write(Ljava/lang/String;)V -/
def fX1_write_L2 (fu : Nat)  : Nat → Nat → Option Nat → Int32 → Mm → Option (Mm)
  | 0, _, _, _, _ => none
  | n + 1, a0, a1, a2, M =>
    (rcS a1).bind fun q1 =>
    b2 (fJ0_length_8abf5 fu q1  M) fun v3 M2 =>
    if v3 ≤ a2 then (
    some M2)
    else (
    (rcS a1).bind fun q4 =>
    b2 (fJ0_charAt_5068e fu q4 a2 M2) fun v6 M5 =>
    (rc M5 1 (some a0)).bind fun q7 =>
    (fX1_writeCode fu q7 v6 M5).bind fun M8 =>
    fX1_write_L2 fu  n a0 a1 (a2 + (1 : Int32)) M8)
def fX1_write (fu : Nat)  (a0 : Nat) (a1 : Option Nat)  (M : Mm) : Option (Mm) :=
    fX1_write_L2 fu  fu a0 a1 (0 : Int32) M
theorem dX1_write_0 : decode cX1_write 0 = .ok (.iconst 0, 1) := by decide +kernel
theorem dX1_write_1 : decode cX1_write 1 = .ok (.istore_n 2, 1) := by decide +kernel
theorem dX1_write_2 : decode cX1_write 2 = .ok (.iload_n 2, 1) := by decide +kernel
theorem dX1_write_3 : decode cX1_write 3 = .ok (.aload_n 1, 1) := by decide +kernel
theorem dX1_write_4 : decode cX1_write 4 = .ok (.invokevirtual 104, 3) := by decide +kernel
theorem dX1_write_7 : decode cX1_write 7 = .ok (.if_icmp .ge 18, 3) := by decide +kernel
theorem dX1_write_10 : decode cX1_write 10 = .ok (.aload_n 0, 1) := by decide +kernel
theorem dX1_write_11 : decode cX1_write 11 = .ok (.aload_n 1, 1) := by decide +kernel
theorem dX1_write_12 : decode cX1_write 12 = .ok (.iload_n 2, 1) := by decide +kernel
theorem dX1_write_13 : decode cX1_write 13 = .ok (.invokevirtual 109, 3) := by decide +kernel
theorem dX1_write_16 : decode cX1_write 16 = .ok (.invokevirtual 113, 3) := by decide +kernel
theorem dX1_write_19 : decode cX1_write 19 = .ok (.iinc 2 1, 3) := by decide +kernel
theorem dX1_write_22 : decode cX1_write 22 = .ok (.goto (-20), 3) := by decide +kernel
theorem dX1_write_25 : decode cX1_write 25 = .ok (.return_, 1) := by decide +kernel
theorem wX1_write_L2 {x : GX} {n0 sl0 : Nat} (X : Cx x cX1_write RX1 none n0 sl0 5 106) {out : Mm} (hE : Ends x n0 sl0 none out) (hn : xn x = 3) (fu : Nat)   : ∀ (n : Nat) (a0 : Nat) (a1 : Option Nat) (a2 : Int32)  (M : Mm), fX1_write_L2 fu  n a0 a1 a2 M = some out → Gw x M 2 [(0, pR (some a0)), (1, pR a1), (2, pI a2)] [] := by
  intro n
  induction n with
  | zero =>
    intro a0 a1 a2 M h
    have h : (none : Option (Mm)) = some out := h
    cases h
  | succ n ih =>
    intro a0 a1 a2 M h
    rw [fX1_write_L2] at h
    refine g_iload_n X (pc := 2) 2 rfl rfl dX1_write_2 ?_
    refine g_aload_n X (pc := 3) 1 rfl rfl dX1_write_3 ?_
    obtain ⟨q1, eq1, h⟩ := bd h
    obtain ⟨v3, M2, eM2, h⟩ := b2d h
    refine g_callVS X (pc := 4) (M' := M2) (ro := some (pI v3)) (as := []) (as' := []) (st := [pI a2]) eq1 (ctJ0_length_8abf5 _ _ _ _ _ _ fu q1  M _ eM2) tb_1214 tb_1427 tb_1212 tb_1213 tb_21 ⟨rfl, hyJ0_length_8abf5⟩ rfl rfl ⟨by decide, by decide⟩ (Nat.le_of_ble_eq_true rfl) dX1_write_4 ?_
    refine g_icmp_ge X (pc := 7) (tgt := 25) dX1_write_7 (by decide) (fun hc => ?_) (fun hc => ?_)
    · have h := (if_pos hc).symm.trans h
      obtain rfl := Option.some.inj h
      exact g_return X hE dX1_write_25
    · have h := (if_neg hc).symm.trans h
      refine g_aload_n X (pc := 10) 0 rfl rfl dX1_write_10 ?_
      refine g_aload_n X (pc := 11) 1 rfl rfl dX1_write_11 ?_
      refine g_iload_n X (pc := 12) 2 rfl rfl dX1_write_12 ?_
      obtain ⟨q4, eq4, h⟩ := bd h
      obtain ⟨v6, M5, eM5, h⟩ := b2d h
      refine g_callVS X (pc := 13) (M' := M5) (ro := some (pI v6)) (as := [pI a2]) (as' := [pI a2]) (st := [pR (some a0)]) eq4 (ctJ0_charAt_5068e _ _ _ _ _ _ fu q4 a2 M2 _ eM5) tb_1224 tb_1428 tb_1222 tb_1223 tb_21 ⟨rfl, hyJ0_charAt_5068e⟩ rfl rfl ⟨by decide, by decide⟩ (Nat.le_of_ble_eq_true rfl) dX1_write_13 ?_
      obtain ⟨q7, eq7, h⟩ := bd h
      obtain ⟨M8, eM8, h⟩ := bd h
      refine g_callV X (pc := 16) (M' := M8) (ro := none) (c := 1) rfl (by decide) (as := [pI v6]) (as' := [pI v6]) (st := []) eq7 (ctX1_writeCode _ _ _ _ _ _ fu q7 v6 M5 _ eM8) tb_1432 tb_1429 tb_1431 ts_57 tb_18 ⟨rfl, hyX1_writeCode⟩ rfl rfl ⟨by decide, by decide⟩ (Nat.le_of_ble_eq_true rfl) dX1_write_16 ?_
      refine g_iinc X (pc := 19) 2 [(2, pI (a2 + (1 : Int32))), (0, pR (some a0)), (1, pR a1)] rfl (iinc_e (by decide)) (lt_n hn (by decide)) rfl dX1_write_19 ?_
      refine g_goto X (pc := 22) (tgt := 2) dX1_write_22 (by decide) ?_
      refine g_sub [1, 2, 0] [(0, pR (some a0)), (1, pR a1), (2, pI (a2 + (1 : Int32)))] rfl ?_
      exact ih a0 a1 (a2 + (1 : Int32)) M8 h
theorem wX1_write {x : GX} {n0 sl0 : Nat} (X : Cx x cX1_write RX1 none n0 sl0 5 106) {out : Mm} (hE : Ends x n0 sl0 none out) (hn : xn x = 3) (fu : Nat)   (a0 : Nat) (a1 : Option Nat)  (M : Mm) (h : fX1_write fu  a0 a1 M = some out) : Gw x M 0 [(0, pR (some a0)), (1, pR a1)] [] := by
  unfold fX1_write at h
  refine g_iconst X (pc := 0) (v := 0) dX1_write_0 (by decide) ?_
  refine g_istore_n X (pc := 1) [(2, pI (0 : Int32)), (0, pR (some a0)), (1, pR a1)] rfl (lt_n hn (by decide)) rfl dX1_write_1 ?_
  refine g_sub [1, 2, 0] [(0, pR (some a0)), (1, pR a1), (2, pI (0 : Int32))] rfl ?_
  exact wX1_write_L2 X hE hn fu   fu a0 a1 (0 : Int32) M h
theorem hyX1_write : yX1_write.cls ≠ "java/lang/invoke/MethodHandle" ∧ yX1_write.cls ≠ "java/lang/invoke/VarHandle" ∧ (parseMethodDescriptor yX1_write.desc).map (fun d => d.parameters.length) = some 1 := ⟨by decide +kernel, by decide +kernel, by decide +kernel⟩
theorem ctX1_write (l : Launch) (E : Nat → Nat) (D : va_G) (dA : Nat → ClassId) (lo : Nat) (H0 : Heap) (fu : Nat) (a0 : Nat) (a1 : Option Nat) (M : Mm) (out : Mm) (h : fX1_write fu a0 a1 M = some out) : Ct l E D dA lo H0 yX1_write cX1_write 3 none 5 106 [pR (some a0), pR a1] M none out := by
  refine ct_of (by decide +kernel) (Nat.le_of_ble_eq_true rfl) ?_
  intro x hl he hd ha ho hh hn hin X hE
  exact wX1_write X hE hn fu a0 a1 M h
/-! WebHost$Connection.writeNumber(I)V -/
def fX1_writeNumber_L24 (fu : Nat)  : Nat → Nat → Int32 → Int32 → Mm → Option (Mm)
  | 0, _, _, _, _ => none
  | n + 1, a0, a1, a2, M =>
    if a2 ≤ 0 then (
    some M)
    else (
    if a2 = 0 then none else
    (rc M 1 (some a0)).bind fun q1 =>
    (fX1_writeCode fu q1 ((48 : Int32) + (irm (a1 / a2) (10 : Int32))) M).bind fun M2 =>
    fX1_writeNumber_L24 fu  n a0 a1 (a2 / (10 : Int32)) M2)
def fX1_writeNumber_L2 (fu : Nat)  : Nat → Nat → Int32 → Int32 → Mm → Option (Mm)
  | 0, _, _, _, _ => none
  | n + 1, a0, a1, a2, M =>
    if (a1 / (10 : Int32)) < a2 then (
    fX1_writeNumber_L24 fu  fu a0 a1 a2 M)
    else (
    if (1000000000 : Int32) ≤ a2 then (
    fX1_writeNumber_L24 fu  fu a0 a1 a2 M)
    else (
    fX1_writeNumber_L2 fu  n a0 a1 (a2 * (10 : Int32)) M))
def fX1_writeNumber (fu : Nat)  (a0 : Nat) (a1 : Int32)  (M : Mm) : Option (Mm) :=
    fX1_writeNumber_L2 fu  fu a0 a1 (1 : Int32) M
theorem dX1_writeNumber_0 : decode cX1_writeNumber 0 = .ok (.iconst 1, 1) := by decide +kernel
theorem dX1_writeNumber_1 : decode cX1_writeNumber 1 = .ok (.istore_n 2, 1) := by decide +kernel
theorem dX1_writeNumber_2 : decode cX1_writeNumber 2 = .ok (.iload_n 2, 1) := by decide +kernel
theorem dX1_writeNumber_3 : decode cX1_writeNumber 3 = .ok (.iload_n 1, 1) := by decide +kernel
theorem dX1_writeNumber_4 : decode cX1_writeNumber 4 = .ok (.bipush 10, 2) := by decide +kernel
theorem dX1_writeNumber_6 : decode cX1_writeNumber 6 = .ok (.idiv, 1) := by decide +kernel
theorem dX1_writeNumber_7 : decode cX1_writeNumber 7 = .ok (.if_icmp .gt 17, 3) := by decide +kernel
theorem dX1_writeNumber_10 : decode cX1_writeNumber 10 = .ok (.iload_n 2, 1) := by decide +kernel
theorem dX1_writeNumber_11 : decode cX1_writeNumber 11 = .ok (.ldc 116, 2) := by decide +kernel
theorem dX1_writeNumber_13 : decode cX1_writeNumber 13 = .ok (.if_icmp .ge 11, 3) := by decide +kernel
theorem dX1_writeNumber_16 : decode cX1_writeNumber 16 = .ok (.iload_n 2, 1) := by decide +kernel
theorem dX1_writeNumber_17 : decode cX1_writeNumber 17 = .ok (.bipush 10, 2) := by decide +kernel
theorem dX1_writeNumber_19 : decode cX1_writeNumber 19 = .ok (.imul, 1) := by decide +kernel
theorem dX1_writeNumber_20 : decode cX1_writeNumber 20 = .ok (.istore_n 2, 1) := by decide +kernel
theorem dX1_writeNumber_21 : decode cX1_writeNumber 21 = .ok (.goto (-19), 3) := by decide +kernel
theorem dX1_writeNumber_24 : decode cX1_writeNumber 24 = .ok (.iload_n 2, 1) := by decide +kernel
theorem dX1_writeNumber_25 : decode cX1_writeNumber 25 = .ok (.ifCond .le 24, 3) := by decide +kernel
theorem dX1_writeNumber_28 : decode cX1_writeNumber 28 = .ok (.aload_n 0, 1) := by decide +kernel
theorem dX1_writeNumber_29 : decode cX1_writeNumber 29 = .ok (.bipush 48, 2) := by decide +kernel
theorem dX1_writeNumber_31 : decode cX1_writeNumber 31 = .ok (.iload_n 1, 1) := by decide +kernel
theorem dX1_writeNumber_32 : decode cX1_writeNumber 32 = .ok (.iload_n 2, 1) := by decide +kernel
theorem dX1_writeNumber_33 : decode cX1_writeNumber 33 = .ok (.idiv, 1) := by decide +kernel
theorem dX1_writeNumber_34 : decode cX1_writeNumber 34 = .ok (.bipush 10, 2) := by decide +kernel
theorem dX1_writeNumber_36 : decode cX1_writeNumber 36 = .ok (.irem, 1) := by decide +kernel
theorem dX1_writeNumber_37 : decode cX1_writeNumber 37 = .ok (.iadd, 1) := by decide +kernel
theorem dX1_writeNumber_38 : decode cX1_writeNumber 38 = .ok (.invokevirtual 113, 3) := by decide +kernel
theorem dX1_writeNumber_41 : decode cX1_writeNumber 41 = .ok (.iload_n 2, 1) := by decide +kernel
theorem dX1_writeNumber_42 : decode cX1_writeNumber 42 = .ok (.bipush 10, 2) := by decide +kernel
theorem dX1_writeNumber_44 : decode cX1_writeNumber 44 = .ok (.idiv, 1) := by decide +kernel
theorem dX1_writeNumber_45 : decode cX1_writeNumber 45 = .ok (.istore_n 2, 1) := by decide +kernel
theorem dX1_writeNumber_46 : decode cX1_writeNumber 46 = .ok (.goto (-22), 3) := by decide +kernel
theorem dX1_writeNumber_49 : decode cX1_writeNumber 49 = .ok (.return_, 1) := by decide +kernel
theorem wX1_writeNumber_L24 {x : GX} {n0 sl0 : Nat} (X : Cx x cX1_writeNumber RX1 none n0 sl0 1 21) {out : Mm} (hE : Ends x n0 sl0 none out) (hn : xn x = 3) (fu : Nat)   : ∀ (n : Nat) (a0 : Nat) (a1 : Int32) (a2 : Int32)  (M : Mm), fX1_writeNumber_L24 fu  n a0 a1 a2 M = some out → Gw x M 24 [(0, pR (some a0)), (1, pI a1), (2, pI a2)] [] := by
  intro n
  induction n with
  | zero =>
    intro a0 a1 a2 M h
    have h : (none : Option (Mm)) = some out := h
    cases h
  | succ n ih =>
    intro a0 a1 a2 M h
    rw [fX1_writeNumber_L24] at h
    refine g_iload_n X (pc := 24) 2 rfl rfl dX1_writeNumber_24 ?_
    refine g_if_le X (pc := 25) (tgt := 49) dX1_writeNumber_25 (by decide) (fun hc => ?_) (fun hc => ?_)
    · have h := (if_pos hc).symm.trans h
      obtain rfl := Option.some.inj h
      exact g_return X hE dX1_writeNumber_49
    · have h := (if_neg hc).symm.trans h
      refine g_aload_n X (pc := 28) 0 rfl rfl dX1_writeNumber_28 ?_
      refine g_bipush X (pc := 29) (v := 48) dX1_writeNumber_29 (by decide) ?_
      refine g_iload_n X (pc := 31) 1 rfl rfl dX1_writeNumber_31 ?_
      refine g_iload_n X (pc := 32) 2 rfl rfl dX1_writeNumber_32 ?_
      by_cases hz : a2 = 0
      · rw [if_pos hz] at h; cases h
      have h := (if_neg hz).symm.trans h
      refine g_idiv X (pc := 33) hz dX1_writeNumber_33 ?_
      refine g_bipush X (pc := 34) (v := 10) dX1_writeNumber_34 (by decide) ?_
      refine g_irem X (pc := 36) (by decide) dX1_writeNumber_36 ?_
      refine g_iadd X (pc := 37) dX1_writeNumber_37 ?_
      obtain ⟨q1, eq1, h⟩ := bd h
      obtain ⟨M2, eM2, h⟩ := bd h
      refine g_callV X (pc := 38) (M' := M2) (ro := none) (c := 1) rfl (by decide) (as := [pI ((48 : Int32) + (irm (a1 / a2) (10 : Int32)))]) (as' := [pI ((48 : Int32) + (irm (a1 / a2) (10 : Int32)))]) (st := []) eq1 (ctX1_writeCode _ _ _ _ _ _ fu q1 ((48 : Int32) + (irm (a1 / a2) (10 : Int32))) M _ eM2) tb_1432 tb_1429 tb_1431 ts_57 tb_18 ⟨rfl, hyX1_writeCode⟩ rfl rfl ⟨by decide, by decide⟩ (Nat.le_of_ble_eq_true rfl) dX1_writeNumber_38 ?_
      refine g_iload_n X (pc := 41) 2 rfl rfl dX1_writeNumber_41 ?_
      refine g_bipush X (pc := 42) (v := 10) dX1_writeNumber_42 (by decide) ?_
      refine g_idiv X (pc := 44) (by decide) dX1_writeNumber_44 ?_
      refine g_istore_n X (pc := 45) [(2, pI (a2 / (10 : Int32))), (0, pR (some a0)), (1, pI a1)] rfl (lt_n hn (by decide)) rfl dX1_writeNumber_45 ?_
      refine g_goto X (pc := 46) (tgt := 24) dX1_writeNumber_46 (by decide) ?_
      refine g_sub [1, 2, 0] [(0, pR (some a0)), (1, pI a1), (2, pI (a2 / (10 : Int32)))] rfl ?_
      exact ih a0 a1 (a2 / (10 : Int32)) M2 h
theorem wX1_writeNumber_L2 {x : GX} {n0 sl0 : Nat} (X : Cx x cX1_writeNumber RX1 none n0 sl0 1 21) {out : Mm} (hE : Ends x n0 sl0 none out) (hn : xn x = 3) (fu : Nat)   : ∀ (n : Nat) (a0 : Nat) (a1 : Int32) (a2 : Int32)  (M : Mm), fX1_writeNumber_L2 fu  n a0 a1 a2 M = some out → Gw x M 2 [(0, pR (some a0)), (1, pI a1), (2, pI a2)] [] := by
  intro n
  induction n with
  | zero =>
    intro a0 a1 a2 M h
    have h : (none : Option (Mm)) = some out := h
    cases h
  | succ n ih =>
    intro a0 a1 a2 M h
    rw [fX1_writeNumber_L2] at h
    refine g_iload_n X (pc := 2) 2 rfl rfl dX1_writeNumber_2 ?_
    refine g_iload_n X (pc := 3) 1 rfl rfl dX1_writeNumber_3 ?_
    refine g_bipush X (pc := 4) (v := 10) dX1_writeNumber_4 (by decide) ?_
    refine g_idiv X (pc := 6) (by decide) dX1_writeNumber_6 ?_
    refine g_icmp_gt X (pc := 7) (tgt := 24) dX1_writeNumber_7 (by decide) (fun hc => ?_) (fun hc => ?_)
    · have h := (if_pos hc).symm.trans h
      exact wX1_writeNumber_L24 X hE hn fu   fu a0 a1 a2 M h
    · have h := (if_neg hc).symm.trans h
      refine g_iload_n X (pc := 10) 2 rfl rfl dX1_writeNumber_10 ?_
      refine g_ldc X (pc := 11) tb_1437 dX1_writeNumber_11 ?_
      refine g_icmp_ge X (pc := 13) (tgt := 24) dX1_writeNumber_13 (by decide) (fun hc => ?_) (fun hc => ?_)
      · have h := (if_pos hc).symm.trans h
        exact wX1_writeNumber_L24 X hE hn fu   fu a0 a1 a2 M h
      · have h := (if_neg hc).symm.trans h
        refine g_iload_n X (pc := 16) 2 rfl rfl dX1_writeNumber_16 ?_
        refine g_bipush X (pc := 17) (v := 10) dX1_writeNumber_17 (by decide) ?_
        refine g_imul X (pc := 19) dX1_writeNumber_19 ?_
        refine g_istore_n X (pc := 20) [(2, pI (a2 * (10 : Int32))), (0, pR (some a0)), (1, pI a1)] rfl (lt_n hn (by decide)) rfl dX1_writeNumber_20 ?_
        refine g_goto X (pc := 21) (tgt := 2) dX1_writeNumber_21 (by decide) ?_
        refine g_sub [1, 2, 0] [(0, pR (some a0)), (1, pI a1), (2, pI (a2 * (10 : Int32)))] rfl ?_
        exact ih a0 a1 (a2 * (10 : Int32)) M h
theorem wX1_writeNumber {x : GX} {n0 sl0 : Nat} (X : Cx x cX1_writeNumber RX1 none n0 sl0 1 21) {out : Mm} (hE : Ends x n0 sl0 none out) (hn : xn x = 3) (fu : Nat)   (a0 : Nat) (a1 : Int32)  (M : Mm) (h : fX1_writeNumber fu  a0 a1 M = some out) : Gw x M 0 [(0, pR (some a0)), (1, pI a1)] [] := by
  unfold fX1_writeNumber at h
  refine g_iconst X (pc := 0) (v := 1) dX1_writeNumber_0 (by decide) ?_
  refine g_istore_n X (pc := 1) [(2, pI (1 : Int32)), (0, pR (some a0)), (1, pI a1)] rfl (lt_n hn (by decide)) rfl dX1_writeNumber_1 ?_
  refine g_sub [1, 2, 0] [(0, pR (some a0)), (1, pI a1), (2, pI (1 : Int32))] rfl ?_
  exact wX1_writeNumber_L2 X hE hn fu   fu a0 a1 (1 : Int32) M h
theorem hyX1_writeNumber : yX1_writeNumber.cls ≠ "java/lang/invoke/MethodHandle" ∧ yX1_writeNumber.cls ≠ "java/lang/invoke/VarHandle" ∧ (parseMethodDescriptor yX1_writeNumber.desc).map (fun d => d.parameters.length) = some 1 := ⟨by decide +kernel, by decide +kernel, by decide +kernel⟩
theorem ctX1_writeNumber (l : Launch) (E : Nat → Nat) (D : va_G) (dA : Nat → ClassId) (lo : Nat) (H0 : Heap) (fu : Nat) (a0 : Nat) (a1 : Int32) (M : Mm) (out : Mm) (h : fX1_writeNumber fu a0 a1 M = some out) : Ct l E D dA lo H0 yX1_writeNumber cX1_writeNumber 3 none 1 21 [pR (some a0), pI a1] M none out := by
  refine ct_of (by decide +kernel) (Nat.le_of_ble_eq_true rfl) ?_
  intro x hl he hd ha ho hh hn hin X hE
  exact wX1_writeNumber X hE hn fu a0 a1 M h
/-! WebHost.hexCode(I)I -/
def fX11_hexCode (fu : Nat)  (a0 : Int32)  (M : Mm) : Option (Int32 × Mm) :=
    if (10 : Int32) ≤ (a0 &&& (15 : Int32)) then (
    some ((((97 : Int32) + (a0 &&& (15 : Int32))) - (10 : Int32)), M))
    else (
    some (((48 : Int32) + (a0 &&& (15 : Int32))), M))
theorem dX11_hexCode_0 : decode cX11_hexCode 0 = .ok (.iload_n 0, 1) := by decide +kernel
theorem dX11_hexCode_1 : decode cX11_hexCode 1 = .ok (.bipush 15, 2) := by decide +kernel
theorem dX11_hexCode_3 : decode cX11_hexCode 3 = .ok (.iand, 1) := by decide +kernel
theorem dX11_hexCode_4 : decode cX11_hexCode 4 = .ok (.istore_n 1, 1) := by decide +kernel
theorem dX11_hexCode_5 : decode cX11_hexCode 5 = .ok (.iload_n 1, 1) := by decide +kernel
theorem dX11_hexCode_6 : decode cX11_hexCode 6 = .ok (.bipush 10, 2) := by decide +kernel
theorem dX11_hexCode_8 : decode cX11_hexCode 8 = .ok (.if_icmp .ge 10, 3) := by decide +kernel
theorem dX11_hexCode_11 : decode cX11_hexCode 11 = .ok (.bipush 48, 2) := by decide +kernel
theorem dX11_hexCode_13 : decode cX11_hexCode 13 = .ok (.iload_n 1, 1) := by decide +kernel
theorem dX11_hexCode_14 : decode cX11_hexCode 14 = .ok (.iadd, 1) := by decide +kernel
theorem dX11_hexCode_15 : decode cX11_hexCode 15 = .ok (.goto 10, 3) := by decide +kernel
theorem dX11_hexCode_18 : decode cX11_hexCode 18 = .ok (.bipush 97, 2) := by decide +kernel
theorem dX11_hexCode_20 : decode cX11_hexCode 20 = .ok (.iload_n 1, 1) := by decide +kernel
theorem dX11_hexCode_21 : decode cX11_hexCode 21 = .ok (.iadd, 1) := by decide +kernel
theorem dX11_hexCode_22 : decode cX11_hexCode 22 = .ok (.bipush 10, 2) := by decide +kernel
theorem dX11_hexCode_24 : decode cX11_hexCode 24 = .ok (.isub, 1) := by decide +kernel
theorem dX11_hexCode_25 : decode cX11_hexCode 25 = .ok (.ireturn, 1) := by decide +kernel
theorem wX11_hexCode {x : GX} {n0 sl0 : Nat} (X : Cx x cX11_hexCode RX11 (some .int) n0 sl0 0 0) {out : Int32 × Mm} (hE : Ends x n0 sl0 (some (pI out.1)) out.2) (hn : xn x = 2) (fu : Nat)   (a0 : Int32)  (M : Mm) (h : fX11_hexCode fu  a0 M = some out) : Gw x M 0 [(0, pI a0)] [] := by
  unfold fX11_hexCode at h
  refine g_iload_n X (pc := 0) 0 rfl rfl dX11_hexCode_0 ?_
  refine g_bipush X (pc := 1) (v := 15) dX11_hexCode_1 (by decide) ?_
  refine g_iand X (pc := 3) dX11_hexCode_3 ?_
  refine g_istore_n X (pc := 4) [(1, pI (a0 &&& (15 : Int32))), (0, pI a0)] rfl (lt_n hn (by decide)) rfl dX11_hexCode_4 ?_
  refine g_iload_n X (pc := 5) 0 rfl rfl dX11_hexCode_5 ?_
  refine g_bipush X (pc := 6) (v := 10) dX11_hexCode_6 (by decide) ?_
  refine g_icmp_ge X (pc := 8) (tgt := 18) dX11_hexCode_8 (by decide) (fun hc => ?_) (fun hc => ?_)
  · have h := (if_pos hc).symm.trans h
    refine g_bipush X (pc := 18) (v := 97) dX11_hexCode_18 (by decide) ?_
    refine g_iload_n X (pc := 20) 0 rfl rfl dX11_hexCode_20 ?_
    refine g_iadd X (pc := 21) dX11_hexCode_21 ?_
    refine g_bipush X (pc := 22) (v := 10) dX11_hexCode_22 (by decide) ?_
    refine g_isub X (pc := 24) dX11_hexCode_24 ?_
    obtain rfl := Option.some.inj h
    exact g_ireturn X hE dX11_hexCode_25
  · have h := (if_neg hc).symm.trans h
    refine g_bipush X (pc := 11) (v := 48) dX11_hexCode_11 (by decide) ?_
    refine g_iload_n X (pc := 13) 0 rfl rfl dX11_hexCode_13 ?_
    refine g_iadd X (pc := 14) dX11_hexCode_14 ?_
    refine g_goto X (pc := 15) (tgt := 25) dX11_hexCode_15 (by decide) ?_
    obtain rfl := Option.some.inj h
    exact g_ireturn X hE dX11_hexCode_25
theorem hyX11_hexCode : yX11_hexCode.cls ≠ "java/lang/invoke/MethodHandle" ∧ yX11_hexCode.cls ≠ "java/lang/invoke/VarHandle" ∧ (parseMethodDescriptor yX11_hexCode.desc).map (fun d => d.parameters.length) = some 1 := ⟨by decide +kernel, by decide +kernel, by decide +kernel⟩
theorem ctX11_hexCode (l : Launch) (E : Nat → Nat) (D : va_G) (dA : Nat → ClassId) (lo : Nat) (H0 : Heap) (fu : Nat) (a0 : Int32) (M : Mm) (out : Int32 × Mm) (h : fX11_hexCode fu a0 M = some out) : Ct l E D dA lo H0 yX11_hexCode cX11_hexCode 2 (some .int) 0 0 [pI a0] M (some (pI out.1)) out.2 := by
  refine ct_of (by decide +kernel) (Nat.le_of_ble_eq_true rfl) ?_
  intro x hl he hd ha ho hh hn hin X hE
  exact wX11_hexCode X hE hn fu a0 M h
/-! WebHost$Connection.writeMark(I)V -/
def fX1_writeMark_L9 (fu : Nat)  : Nat → Nat → Int32 → Int32 → Mm → Option (Mm)
  | 0, _, _, _, _ => none
  | n + 1, a0, a1, a2, M =>
    if a2 < 0 then (
    (rc M 1 (some a0)).bind fun q1 =>
    (fX1_writeCode fu q1 (34 : Int32) M).bind fun M2 =>
    some M2)
    else (
    b2 (fX11_hexCode fu  (ushr a1 a2) M) fun v4 M3 =>
    (rc M3 1 (some a0)).bind fun q5 =>
    (fX1_writeCode fu q5 v4 M3).bind fun M6 =>
    fX1_writeMark_L9 fu  n a0 a1 (a2 + (-4 : Int32)) M6)
def fX1_writeMark (fu : Nat)  (a0 : Nat) (a1 : Int32)  (M : Mm) : Option (Mm) :=
    (rc M 1 (some a0)).bind fun q1 =>
    (fX1_writeCode fu q1 (34 : Int32) M).bind fun M2 =>
    fX1_writeMark_L9 fu  fu a0 a1 (28 : Int32) M2
theorem dX1_writeMark_0 : decode cX1_writeMark 0 = .ok (.aload_n 0, 1) := by decide +kernel
theorem dX1_writeMark_1 : decode cX1_writeMark 1 = .ok (.bipush 34, 2) := by decide +kernel
theorem dX1_writeMark_3 : decode cX1_writeMark 3 = .ok (.invokevirtual 113, 3) := by decide +kernel
theorem dX1_writeMark_6 : decode cX1_writeMark 6 = .ok (.bipush 28, 2) := by decide +kernel
theorem dX1_writeMark_8 : decode cX1_writeMark 8 = .ok (.istore_n 2, 1) := by decide +kernel
theorem dX1_writeMark_9 : decode cX1_writeMark 9 = .ok (.iload_n 2, 1) := by decide +kernel
theorem dX1_writeMark_10 : decode cX1_writeMark 10 = .ok (.ifCond .lt 19, 3) := by decide +kernel
theorem dX1_writeMark_13 : decode cX1_writeMark 13 = .ok (.aload_n 0, 1) := by decide +kernel
theorem dX1_writeMark_14 : decode cX1_writeMark 14 = .ok (.iload_n 1, 1) := by decide +kernel
theorem dX1_writeMark_15 : decode cX1_writeMark 15 = .ok (.iload_n 2, 1) := by decide +kernel
theorem dX1_writeMark_16 : decode cX1_writeMark 16 = .ok (.iushr, 1) := by decide +kernel
theorem dX1_writeMark_17 : decode cX1_writeMark 17 = .ok (.invokestatic 117, 3) := by decide +kernel
theorem dX1_writeMark_20 : decode cX1_writeMark 20 = .ok (.invokevirtual 113, 3) := by decide +kernel
theorem dX1_writeMark_23 : decode cX1_writeMark 23 = .ok (.iinc 2 (-4), 3) := by decide +kernel
theorem dX1_writeMark_26 : decode cX1_writeMark 26 = .ok (.goto (-17), 3) := by decide +kernel
theorem dX1_writeMark_29 : decode cX1_writeMark 29 = .ok (.aload_n 0, 1) := by decide +kernel
theorem dX1_writeMark_30 : decode cX1_writeMark 30 = .ok (.bipush 34, 2) := by decide +kernel
theorem dX1_writeMark_32 : decode cX1_writeMark 32 = .ok (.invokevirtual 113, 3) := by decide +kernel
theorem dX1_writeMark_35 : decode cX1_writeMark 35 = .ok (.return_, 1) := by decide +kernel
theorem wX1_writeMark_L9 {x : GX} {n0 sl0 : Nat} (X : Cx x cX1_writeMark RX1 none n0 sl0 1 21) {out : Mm} (hE : Ends x n0 sl0 none out) (hn : xn x = 3) (fu : Nat)   : ∀ (n : Nat) (a0 : Nat) (a1 : Int32) (a2 : Int32)  (M : Mm), fX1_writeMark_L9 fu  n a0 a1 a2 M = some out → Gw x M 9 [(0, pR (some a0)), (1, pI a1), (2, pI a2)] [] := by
  intro n
  induction n with
  | zero =>
    intro a0 a1 a2 M h
    have h : (none : Option (Mm)) = some out := h
    cases h
  | succ n ih =>
    intro a0 a1 a2 M h
    rw [fX1_writeMark_L9] at h
    refine g_iload_n X (pc := 9) 2 rfl rfl dX1_writeMark_9 ?_
    refine g_if_lt X (pc := 10) (tgt := 29) dX1_writeMark_10 (by decide) (fun hc => ?_) (fun hc => ?_)
    · have h := (if_pos hc).symm.trans h
      refine g_aload_n X (pc := 29) 0 rfl rfl dX1_writeMark_29 ?_
      refine g_bipush X (pc := 30) (v := 34) dX1_writeMark_30 (by decide) ?_
      obtain ⟨q1, eq1, h⟩ := bd h
      obtain ⟨M2, eM2, h⟩ := bd h
      refine g_callV X (pc := 32) (M' := M2) (ro := none) (c := 1) rfl (by decide) (as := [pI (34 : Int32)]) (as' := [pI (34 : Int32)]) (st := []) eq1 (ctX1_writeCode _ _ _ _ _ _ fu q1 (34 : Int32) M _ eM2) tb_1432 tb_1429 tb_1431 ts_57 tb_18 ⟨rfl, hyX1_writeCode⟩ rfl rfl ⟨by decide, by decide⟩ (Nat.le_of_ble_eq_true rfl) dX1_writeMark_32 ?_
      obtain rfl := Option.some.inj h
      exact g_return X hE dX1_writeMark_35
    · have h := (if_neg hc).symm.trans h
      refine g_aload_n X (pc := 13) 0 rfl rfl dX1_writeMark_13 ?_
      refine g_iload_n X (pc := 14) 1 rfl rfl dX1_writeMark_14 ?_
      refine g_iload_n X (pc := 15) 2 rfl rfl dX1_writeMark_15 ?_
      refine g_iushr X (pc := 16) dX1_writeMark_16 ?_
      obtain ⟨v4, M3, eM3, h⟩ := b2d h
      refine g_callSN X (pc := 17) (M' := M3) (ro := some (pI v4)) (as := [pI (ushr a1 a2)]) (as' := [pI (ushr a1 a2)]) (st := [pR (some a0)]) (ctX11_hexCode _ _ _ _ _ _ fu  (ushr a1 a2) M _ eM3) tb_1396 (List.mem_of_getElem? (i := 26) rfl) tb_1395 tb_1 hyX11_hexCode rfl rfl ⟨by decide, by decide⟩ (Nat.le_of_ble_eq_true rfl) dX1_writeMark_17 ?_
      obtain ⟨q5, eq5, h⟩ := bd h
      obtain ⟨M6, eM6, h⟩ := bd h
      refine g_callV X (pc := 20) (M' := M6) (ro := none) (c := 1) rfl (by decide) (as := [pI v4]) (as' := [pI v4]) (st := []) eq5 (ctX1_writeCode _ _ _ _ _ _ fu q5 v4 M3 _ eM6) tb_1432 tb_1429 tb_1431 ts_57 tb_18 ⟨rfl, hyX1_writeCode⟩ rfl rfl ⟨by decide, by decide⟩ (Nat.le_of_ble_eq_true rfl) dX1_writeMark_20 ?_
      refine g_iinc X (pc := 23) 2 [(2, pI (a2 + (-4 : Int32))), (0, pR (some a0)), (1, pI a1)] rfl (iinc_e (by decide)) (lt_n hn (by decide)) rfl dX1_writeMark_23 ?_
      refine g_goto X (pc := 26) (tgt := 9) dX1_writeMark_26 (by decide) ?_
      refine g_sub [1, 2, 0] [(0, pR (some a0)), (1, pI a1), (2, pI (a2 + (-4 : Int32)))] rfl ?_
      exact ih a0 a1 (a2 + (-4 : Int32)) M6 h
theorem wX1_writeMark {x : GX} {n0 sl0 : Nat} (X : Cx x cX1_writeMark RX1 none n0 sl0 1 21) {out : Mm} (hE : Ends x n0 sl0 none out) (hn : xn x = 3) (fu : Nat)   (a0 : Nat) (a1 : Int32)  (M : Mm) (h : fX1_writeMark fu  a0 a1 M = some out) : Gw x M 0 [(0, pR (some a0)), (1, pI a1)] [] := by
  unfold fX1_writeMark at h
  refine g_aload_n X (pc := 0) 0 rfl rfl dX1_writeMark_0 ?_
  refine g_bipush X (pc := 1) (v := 34) dX1_writeMark_1 (by decide) ?_
  obtain ⟨q1, eq1, h⟩ := bd h
  obtain ⟨M2, eM2, h⟩ := bd h
  refine g_callV X (pc := 3) (M' := M2) (ro := none) (c := 1) rfl (by decide) (as := [pI (34 : Int32)]) (as' := [pI (34 : Int32)]) (st := []) eq1 (ctX1_writeCode _ _ _ _ _ _ fu q1 (34 : Int32) M _ eM2) tb_1432 tb_1429 tb_1431 ts_57 tb_18 ⟨rfl, hyX1_writeCode⟩ rfl rfl ⟨by decide, by decide⟩ (Nat.le_of_ble_eq_true rfl) dX1_writeMark_3 ?_
  refine g_bipush X (pc := 6) (v := 28) dX1_writeMark_6 (by decide) ?_
  refine g_istore_n X (pc := 8) [(2, pI (28 : Int32)), (0, pR (some a0)), (1, pI a1)] rfl (lt_n hn (by decide)) rfl dX1_writeMark_8 ?_
  refine g_sub [1, 2, 0] [(0, pR (some a0)), (1, pI a1), (2, pI (28 : Int32))] rfl ?_
  exact wX1_writeMark_L9 X hE hn fu   fu a0 a1 (28 : Int32) M2 h
theorem hyX1_writeMark : yX1_writeMark.cls ≠ "java/lang/invoke/MethodHandle" ∧ yX1_writeMark.cls ≠ "java/lang/invoke/VarHandle" ∧ (parseMethodDescriptor yX1_writeMark.desc).map (fun d => d.parameters.length) = some 1 := ⟨by decide +kernel, by decide +kernel, by decide +kernel⟩
theorem ctX1_writeMark (l : Launch) (E : Nat → Nat) (D : va_G) (dA : Nat → ClassId) (lo : Nat) (H0 : Heap) (fu : Nat) (a0 : Nat) (a1 : Int32) (M : Mm) (out : Mm) (h : fX1_writeMark fu a0 a1 M = some out) : Ct l E D dA lo H0 yX1_writeMark cX1_writeMark 3 none 1 21 [pR (some a0), pI a1] M none out := by
  refine ct_of (by decide +kernel) (Nat.le_of_ble_eq_true rfl) ?_
  intro x hl he hd ha ho hh hn hin X hE
  exact wX1_writeMark X hE hn fu a0 a1 M h
/-! WebHost$Connection.dataEnd()I -/
def fX1_dataEnd (fu : Nat)  (a0 : Nat)  (M : Mm) : Option (Int32 × Mm) :=
    (gI M 1 77 (some a0)).bind fun v1 =>
    (gI M 1 78 (some a0)).bind fun v2 =>
    (gI M 1 76 (some a0)).bind fun v3 =>
    some (((v1 + v2) + v3), M)
theorem dX1_dataEnd_0 : decode cX1_dataEnd 0 = .ok (.aload_n 0, 1) := by decide +kernel
theorem dX1_dataEnd_1 : decode cX1_dataEnd 1 = .ok (.getfield 84, 3) := by decide +kernel
theorem dX1_dataEnd_4 : decode cX1_dataEnd 4 = .ok (.aload_n 0, 1) := by decide +kernel
theorem dX1_dataEnd_5 : decode cX1_dataEnd 5 = .ok (.getfield 87, 3) := by decide +kernel
theorem dX1_dataEnd_8 : decode cX1_dataEnd 8 = .ok (.iadd, 1) := by decide +kernel
theorem dX1_dataEnd_9 : decode cX1_dataEnd 9 = .ok (.aload_n 0, 1) := by decide +kernel
theorem dX1_dataEnd_10 : decode cX1_dataEnd 10 = .ok (.getfield 93, 3) := by decide +kernel
theorem dX1_dataEnd_13 : decode cX1_dataEnd 13 = .ok (.iadd, 1) := by decide +kernel
theorem dX1_dataEnd_14 : decode cX1_dataEnd 14 = .ok (.ireturn, 1) := by decide +kernel
theorem wX1_dataEnd {x : GX} {n0 sl0 : Nat} (X : Cx x cX1_dataEnd RX1 (some .int) n0 sl0 0 0) {out : Int32 × Mm} (hE : Ends x n0 sl0 (some (pI out.1)) out.2) (hn : xn x = 1) (fu : Nat)   (a0 : Nat)  (M : Mm) (h : fX1_dataEnd fu  a0 M = some out) : Gw x M 0 [(0, pR (some a0))] [] := by
  unfold fX1_dataEnd at h
  refine g_aload_n X (pc := 0) 0 rfl rfl dX1_dataEnd_0 ?_
  obtain ⟨v1, ev1, h⟩ := bd h
  refine g_getI X (pc := 1) fk_1_13 rfl rfl ev1 tb_987 dX1_dataEnd_1 ?_
  refine g_aload_n X (pc := 4) 0 rfl rfl dX1_dataEnd_4 ?_
  obtain ⟨v2, ev2, h⟩ := bd h
  refine g_getI X (pc := 5) fk_1_14 rfl rfl ev2 tb_989 dX1_dataEnd_5 ?_
  refine g_iadd X (pc := 8) dX1_dataEnd_8 ?_
  refine g_aload_n X (pc := 9) 0 rfl rfl dX1_dataEnd_9 ?_
  obtain ⟨v3, ev3, h⟩ := bd h
  refine g_getI X (pc := 10) fk_1_12 rfl rfl ev3 tb_985 dX1_dataEnd_10 ?_
  refine g_iadd X (pc := 13) dX1_dataEnd_13 ?_
  obtain rfl := Option.some.inj h
  exact g_ireturn X hE dX1_dataEnd_14
theorem hyX1_dataEnd : yX1_dataEnd.cls ≠ "java/lang/invoke/MethodHandle" ∧ yX1_dataEnd.cls ≠ "java/lang/invoke/VarHandle" ∧ (parseMethodDescriptor yX1_dataEnd.desc).map (fun d => d.parameters.length) = some 0 := ⟨by decide +kernel, by decide +kernel, by decide +kernel⟩
theorem ctX1_dataEnd (l : Launch) (E : Nat → Nat) (D : va_G) (dA : Nat → ClassId) (lo : Nat) (H0 : Heap) (fu : Nat) (a0 : Nat) (M : Mm) (out : Int32 × Mm) (h : fX1_dataEnd fu a0 M = some out) : Ct l E D dA lo H0 yX1_dataEnd cX1_dataEnd 1 (some .int) 0 0 [pR (some a0)] M (some (pI out.1)) out.2 := by
  refine ct_of (by decide +kernel) (Nat.le_of_ble_eq_true rfl) ?_
  intro x hl he hd ha ho hh hn hin X hE
  exact wX1_dataEnd X hE hn fu a0 M h
/-! WebHost$Connection.left()I -/
def fX1_left (fu : Nat)  (a0 : Nat)  (M : Mm) : Option (Int32 × Mm) :=
    (rc M 1 (some a0)).bind fun q1 =>
    b2 (fX1_dataEnd fu q1  M) fun v3 M2 =>
    (gI M2 1 69 (some a0)).bind fun v4 =>
    (gI M2 1 74 (some a0)).bind fun v5 =>
    if v5 = 0 then (
    some (((v3 - v4) + (0 : Int32)), M2))
    else (
    some (((v3 - v4) + (1 : Int32)), M2))
theorem dX1_left_0 : decode cX1_left 0 = .ok (.aload_n 0, 1) := by decide +kernel
theorem dX1_left_1 : decode cX1_left 1 = .ok (.invokevirtual 121, 3) := by decide +kernel
theorem dX1_left_4 : decode cX1_left 4 = .ok (.aload_n 0, 1) := by decide +kernel
theorem dX1_left_5 : decode cX1_left 5 = .ok (.getfield 53, 3) := by decide +kernel
theorem dX1_left_8 : decode cX1_left 8 = .ok (.isub, 1) := by decide +kernel
theorem dX1_left_9 : decode cX1_left 9 = .ok (.aload_n 0, 1) := by decide +kernel
theorem dX1_left_10 : decode cX1_left 10 = .ok (.getfield 96, 3) := by decide +kernel
theorem dX1_left_13 : decode cX1_left 13 = .ok (.ifCond .eq 7, 3) := by decide +kernel
theorem dX1_left_16 : decode cX1_left 16 = .ok (.iconst 1, 1) := by decide +kernel
theorem dX1_left_17 : decode cX1_left 17 = .ok (.goto 4, 3) := by decide +kernel
theorem dX1_left_20 : decode cX1_left 20 = .ok (.iconst 0, 1) := by decide +kernel
theorem dX1_left_21 : decode cX1_left 21 = .ok (.iadd, 1) := by decide +kernel
theorem dX1_left_22 : decode cX1_left 22 = .ok (.ireturn, 1) := by decide +kernel
theorem wX1_left {x : GX} {n0 sl0 : Nat} (X : Cx x cX1_left RX1 (some .int) n0 sl0 1 20) {out : Int32 × Mm} (hE : Ends x n0 sl0 (some (pI out.1)) out.2) (hn : xn x = 1) (fu : Nat)   (a0 : Nat)  (M : Mm) (h : fX1_left fu  a0 M = some out) : Gw x M 0 [(0, pR (some a0))] [] := by
  unfold fX1_left at h
  refine g_aload_n X (pc := 0) 0 rfl rfl dX1_left_0 ?_
  obtain ⟨q1, eq1, h⟩ := bd h
  obtain ⟨v3, M2, eM2, h⟩ := b2d h
  refine g_callV X (pc := 1) (M' := M2) (ro := some (pI v3)) (c := 1) rfl (by decide) (as := []) (as' := []) (st := []) eq1 (ctX1_dataEnd _ _ _ _ _ _ fu q1  M _ eM2) tb_507 tb_504 tb_505 tb_506 tb_18 ⟨rfl, hyX1_dataEnd⟩ rfl rfl ⟨by decide, by decide⟩ (Nat.le_of_ble_eq_true rfl) dX1_left_1 ?_
  refine g_aload_n X (pc := 4) 0 rfl rfl dX1_left_4 ?_
  obtain ⟨v4, ev4, h⟩ := bd h
  refine g_getI X (pc := 5) fk_1_5 rfl rfl ev4 tb_969 dX1_left_5 ?_
  refine g_isub X (pc := 8) dX1_left_8 ?_
  refine g_aload_n X (pc := 9) 0 rfl rfl dX1_left_9 ?_
  obtain ⟨v5, ev5, h⟩ := bd h
  refine g_getI X (pc := 10) fk_1_10 rfl rfl ev5 tb_980 dX1_left_10 ?_
  refine g_if_eq X (pc := 13) (tgt := 20) dX1_left_13 (by decide) (fun hc => ?_) (fun hc => ?_)
  · have h := (if_pos hc).symm.trans h
    refine g_iconst X (pc := 20) (v := 0) dX1_left_20 (by decide) ?_
    refine g_iadd X (pc := 21) dX1_left_21 ?_
    obtain rfl := Option.some.inj h
    exact g_ireturn X hE dX1_left_22
  · have h := (if_neg hc).symm.trans h
    refine g_iconst X (pc := 16) (v := 1) dX1_left_16 (by decide) ?_
    refine g_goto X (pc := 17) (tgt := 21) dX1_left_17 (by decide) ?_
    refine g_iadd X (pc := 21) dX1_left_21 ?_
    obtain rfl := Option.some.inj h
    exact g_ireturn X hE dX1_left_22
theorem hyX1_left : yX1_left.cls ≠ "java/lang/invoke/MethodHandle" ∧ yX1_left.cls ≠ "java/lang/invoke/VarHandle" ∧ (parseMethodDescriptor yX1_left.desc).map (fun d => d.parameters.length) = some 0 := ⟨by decide +kernel, by decide +kernel, by decide +kernel⟩
theorem ctX1_left (l : Launch) (E : Nat → Nat) (D : va_G) (dA : Nat → ClassId) (lo : Nat) (H0 : Heap) (fu : Nat) (a0 : Nat) (M : Mm) (out : Int32 × Mm) (h : fX1_left fu a0 M = some out) : Ct l E D dA lo H0 yX1_left cX1_left 1 (some .int) 1 20 [pR (some a0)] M (some (pI out.1)) out.2 := by
  refine ct_of (by decide +kernel) (Nat.le_of_ble_eq_true rfl) ?_
  intro x hl he hd ha ho hh hn hin X hE
  exact wX1_left X hE hn fu a0 M h
/-! WebHost$Connection.isBusy()Z -/
def fX1_isBusy (fu : Nat)  (a0 : Nat)  (M : Mm) : Option (Int32 × Mm) :=
    (rc M 1 (some a0)).bind fun q1 =>
    b2 (fX1_left fu q1  M) fun v3 M2 =>
    if 0 < v3 then (
    rN .boolean (1 : Int32) M2)
    else (
    (gI M2 1 68 (some a0)).bind fun v4 =>
    (gI M2 1 70 (some a0)).bind fun v5 =>
    if v4 = v5 then (
    rN .boolean (0 : Int32) M2)
    else (
    rN .boolean (1 : Int32) M2))
theorem dX1_isBusy_0 : decode cX1_isBusy 0 = .ok (.aload_n 0, 1) := by decide +kernel
theorem dX1_isBusy_1 : decode cX1_isBusy 1 = .ok (.invokevirtual 124, 3) := by decide +kernel
theorem dX1_isBusy_4 : decode cX1_isBusy 4 = .ok (.ifCond .gt 14, 3) := by decide +kernel
theorem dX1_isBusy_7 : decode cX1_isBusy 7 = .ok (.aload_n 0, 1) := by decide +kernel
theorem dX1_isBusy_8 : decode cX1_isBusy 8 = .ok (.getfield 50, 3) := by decide +kernel
theorem dX1_isBusy_11 : decode cX1_isBusy 11 = .ok (.aload_n 0, 1) := by decide +kernel
theorem dX1_isBusy_12 : decode cX1_isBusy 12 = .ok (.getfield 56, 3) := by decide +kernel
theorem dX1_isBusy_15 : decode cX1_isBusy 15 = .ok (.if_icmp .eq 7, 3) := by decide +kernel
theorem dX1_isBusy_18 : decode cX1_isBusy 18 = .ok (.iconst 1, 1) := by decide +kernel
theorem dX1_isBusy_19 : decode cX1_isBusy 19 = .ok (.goto 4, 3) := by decide +kernel
theorem dX1_isBusy_22 : decode cX1_isBusy 22 = .ok (.iconst 0, 1) := by decide +kernel
theorem dX1_isBusy_23 : decode cX1_isBusy 23 = .ok (.ireturn, 1) := by decide +kernel
theorem wX1_isBusy {x : GX} {n0 sl0 : Nat} (X : Cx x cX1_isBusy RX1 (some .boolean) n0 sl0 2 40) {out : Int32 × Mm} (hE : Ends x n0 sl0 (some (pI out.1)) out.2) (hn : xn x = 1) (fu : Nat)   (a0 : Nat)  (M : Mm) (h : fX1_isBusy fu  a0 M = some out) : Gw x M 0 [(0, pR (some a0))] [] := by
  unfold fX1_isBusy at h
  refine g_aload_n X (pc := 0) 0 rfl rfl dX1_isBusy_0 ?_
  obtain ⟨q1, eq1, h⟩ := bd h
  obtain ⟨v3, M2, eM2, h⟩ := b2d h
  refine g_callV X (pc := 1) (M' := M2) (ro := some (pI v3)) (c := 1) rfl (by decide) (as := []) (as' := []) (st := []) eq1 (ctX1_left _ _ _ _ _ _ fu q1  M _ eM2) tb_503 tb_500 tb_501 tb_502 tb_18 ⟨rfl, hyX1_left⟩ rfl rfl ⟨by decide, by decide⟩ (Nat.le_of_ble_eq_true rfl) dX1_isBusy_1 ?_
  refine g_if_gt X (pc := 4) (tgt := 18) dX1_isBusy_4 (by decide) (fun hc => ?_) (fun hc => ?_)
  · have h := (if_pos hc).symm.trans h
    refine g_iconst X (pc := 18) (v := 1) dX1_isBusy_18 (by decide) ?_
    refine g_goto X (pc := 19) (tgt := 23) dX1_isBusy_19 (by decide) ?_
    obtain ⟨hz, rfl⟩ := rN_some h
    exact g_nreturn X rfl hz hE dX1_isBusy_23
  · have h := (if_neg hc).symm.trans h
    refine g_aload_n X (pc := 7) 0 rfl rfl dX1_isBusy_7 ?_
    obtain ⟨v4, ev4, h⟩ := bd h
    refine g_getI X (pc := 8) fk_1_4 rfl rfl ev4 tb_967 dX1_isBusy_8 ?_
    refine g_aload_n X (pc := 11) 0 rfl rfl dX1_isBusy_11 ?_
    obtain ⟨v5, ev5, h⟩ := bd h
    refine g_getI X (pc := 12) fk_1_6 rfl rfl ev5 tb_972 dX1_isBusy_12 ?_
    refine g_icmp_eq X (pc := 15) (tgt := 22) dX1_isBusy_15 (by decide) (fun hc => ?_) (fun hc => ?_)
    · have h := (if_pos hc).symm.trans h
      refine g_iconst X (pc := 22) (v := 0) dX1_isBusy_22 (by decide) ?_
      obtain ⟨hz, rfl⟩ := rN_some h
      exact g_nreturn X rfl hz hE dX1_isBusy_23
    · have h := (if_neg hc).symm.trans h
      refine g_iconst X (pc := 18) (v := 1) dX1_isBusy_18 (by decide) ?_
      refine g_goto X (pc := 19) (tgt := 23) dX1_isBusy_19 (by decide) ?_
      obtain ⟨hz, rfl⟩ := rN_some h
      exact g_nreturn X rfl hz hE dX1_isBusy_23
theorem hyX1_isBusy : yX1_isBusy.cls ≠ "java/lang/invoke/MethodHandle" ∧ yX1_isBusy.cls ≠ "java/lang/invoke/VarHandle" ∧ (parseMethodDescriptor yX1_isBusy.desc).map (fun d => d.parameters.length) = some 0 := ⟨by decide +kernel, by decide +kernel, by decide +kernel⟩
theorem ctX1_isBusy (l : Launch) (E : Nat → Nat) (D : va_G) (dA : Nat → ClassId) (lo : Nat) (H0 : Heap) (fu : Nat) (a0 : Nat) (M : Mm) (out : Int32 × Mm) (h : fX1_isBusy fu a0 M = some out) : Ct l E D dA lo H0 yX1_isBusy cX1_isBusy 1 (some .boolean) 2 40 [pR (some a0)] M (some (pI out.1)) out.2 := by
  refine ct_of (by decide +kernel) (Nat.le_of_ble_eq_true rfl) ?_
  intro x hl he hd ha ho hh hn hin X hE
  exact wX1_isBusy X hE hn fu a0 M h
/-! WebHost$Connection.isReady()Z -/
def fX1_isReady_L17 (fu : Nat)  (a0 : Nat)  (M : Mm) : Option (Int32 × Mm) :=
    (gI M 1 74 (some a0)).bind fun v1 =>
    if v1 = 0 then (
    (rc M 1 (some a0)).bind fun q2 =>
    b2 (fX1_left fu q2  M) fun v4 M3 =>
    if v4 = 0 then (
    (gI M3 1 69 (some a0)).bind fun v5 =>
    (gI M3 1 68 (some a0)).bind fun v6 =>
    if v5 = v6 then (
    rN .boolean (1 : Int32) M3)
    else (
    rN .boolean (0 : Int32) M3))
    else (
    rN .boolean (0 : Int32) M3))
    else (
    rN .boolean (0 : Int32) M)
def fX1_isReady (fu : Nat)  (a0 : Nat)  (M : Mm) : Option (Int32 × Mm) :=
    (gI M 1 64 (some a0)).bind fun v1 =>
    if v1 = (2 : Int32) then (
    fX1_isReady_L17 fu  a0 M)
    else (
    (gI M 1 64 (some a0)).bind fun v2 =>
    if v2 = (7 : Int32) then (
    fX1_isReady_L17 fu  a0 M)
    else (
    rN .boolean (0 : Int32) M))
theorem dX1_isReady_0 : decode cX1_isReady 0 = .ok (.aload_n 0, 1) := by decide +kernel
theorem dX1_isReady_1 : decode cX1_isReady 1 = .ok (.getfield 29, 3) := by decide +kernel
theorem dX1_isReady_4 : decode cX1_isReady 4 = .ok (.iconst 2, 1) := by decide +kernel
theorem dX1_isReady_5 : decode cX1_isReady 5 = .ok (.if_icmp .eq 12, 3) := by decide +kernel
theorem dX1_isReady_8 : decode cX1_isReady 8 = .ok (.aload_n 0, 1) := by decide +kernel
theorem dX1_isReady_9 : decode cX1_isReady 9 = .ok (.getfield 29, 3) := by decide +kernel
theorem dX1_isReady_12 : decode cX1_isReady 12 = .ok (.bipush 7, 2) := by decide +kernel
theorem dX1_isReady_14 : decode cX1_isReady 14 = .ok (.if_icmp .ne 32, 3) := by decide +kernel
theorem dX1_isReady_17 : decode cX1_isReady 17 = .ok (.aload_n 0, 1) := by decide +kernel
theorem dX1_isReady_18 : decode cX1_isReady 18 = .ok (.getfield 96, 3) := by decide +kernel
theorem dX1_isReady_21 : decode cX1_isReady 21 = .ok (.ifCond .ne 25, 3) := by decide +kernel
theorem dX1_isReady_24 : decode cX1_isReady 24 = .ok (.aload_n 0, 1) := by decide +kernel
theorem dX1_isReady_25 : decode cX1_isReady 25 = .ok (.invokevirtual 124, 3) := by decide +kernel
theorem dX1_isReady_28 : decode cX1_isReady 28 = .ok (.ifCond .ne 18, 3) := by decide +kernel
theorem dX1_isReady_31 : decode cX1_isReady 31 = .ok (.aload_n 0, 1) := by decide +kernel
theorem dX1_isReady_32 : decode cX1_isReady 32 = .ok (.getfield 53, 3) := by decide +kernel
theorem dX1_isReady_35 : decode cX1_isReady 35 = .ok (.aload_n 0, 1) := by decide +kernel
theorem dX1_isReady_36 : decode cX1_isReady 36 = .ok (.getfield 50, 3) := by decide +kernel
theorem dX1_isReady_39 : decode cX1_isReady 39 = .ok (.if_icmp .ne 7, 3) := by decide +kernel
theorem dX1_isReady_42 : decode cX1_isReady 42 = .ok (.iconst 1, 1) := by decide +kernel
theorem dX1_isReady_43 : decode cX1_isReady 43 = .ok (.goto 4, 3) := by decide +kernel
theorem dX1_isReady_46 : decode cX1_isReady 46 = .ok (.iconst 0, 1) := by decide +kernel
theorem dX1_isReady_47 : decode cX1_isReady 47 = .ok (.ireturn, 1) := by decide +kernel
theorem wX1_isReady_L17 {x : GX} {n0 sl0 : Nat} (X : Cx x cX1_isReady RX1 (some .boolean) n0 sl0 2 40) {out : Int32 × Mm} (hE : Ends x n0 sl0 (some (pI out.1)) out.2) (hn : xn x = 1) (fu : Nat)   (a0 : Nat)  (M : Mm) (h : fX1_isReady_L17 fu  a0 M = some out) : Gw x M 17 [(0, pR (some a0))] [] := by
  unfold fX1_isReady_L17 at h
  refine g_aload_n X (pc := 17) 0 rfl rfl dX1_isReady_17 ?_
  obtain ⟨v1, ev1, h⟩ := bd h
  refine g_getI X (pc := 18) fk_1_10 rfl rfl ev1 tb_980 dX1_isReady_18 ?_
  refine g_if_ne X (pc := 21) (tgt := 46) dX1_isReady_21 (by decide) (fun hc => ?_) (fun hc => ?_)
  · have h := (if_neg hc).symm.trans h
    refine g_iconst X (pc := 46) (v := 0) dX1_isReady_46 (by decide) ?_
    obtain ⟨hz, rfl⟩ := rN_some h
    exact g_nreturn X rfl hz hE dX1_isReady_47
  · have h := (if_pos hc).symm.trans h
    refine g_aload_n X (pc := 24) 0 rfl rfl dX1_isReady_24 ?_
    obtain ⟨q2, eq2, h⟩ := bd h
    obtain ⟨v4, M3, eM3, h⟩ := b2d h
    refine g_callV X (pc := 25) (M' := M3) (ro := some (pI v4)) (c := 1) rfl (by decide) (as := []) (as' := []) (st := []) eq2 (ctX1_left _ _ _ _ _ _ fu q2  M _ eM3) tb_503 tb_500 tb_501 tb_502 tb_18 ⟨rfl, hyX1_left⟩ rfl rfl ⟨by decide, by decide⟩ (Nat.le_of_ble_eq_true rfl) dX1_isReady_25 ?_
    refine g_if_ne X (pc := 28) (tgt := 46) dX1_isReady_28 (by decide) (fun hc => ?_) (fun hc => ?_)
    · have h := (if_neg hc).symm.trans h
      refine g_iconst X (pc := 46) (v := 0) dX1_isReady_46 (by decide) ?_
      obtain ⟨hz, rfl⟩ := rN_some h
      exact g_nreturn X rfl hz hE dX1_isReady_47
    · have h := (if_pos hc).symm.trans h
      refine g_aload_n X (pc := 31) 0 rfl rfl dX1_isReady_31 ?_
      obtain ⟨v5, ev5, h⟩ := bd h
      refine g_getI X (pc := 32) fk_1_5 rfl rfl ev5 tb_969 dX1_isReady_32 ?_
      refine g_aload_n X (pc := 35) 0 rfl rfl dX1_isReady_35 ?_
      obtain ⟨v6, ev6, h⟩ := bd h
      refine g_getI X (pc := 36) fk_1_4 rfl rfl ev6 tb_967 dX1_isReady_36 ?_
      refine g_icmp_ne X (pc := 39) (tgt := 46) dX1_isReady_39 (by decide) (fun hc => ?_) (fun hc => ?_)
      · have h := (if_neg hc).symm.trans h
        refine g_iconst X (pc := 46) (v := 0) dX1_isReady_46 (by decide) ?_
        obtain ⟨hz, rfl⟩ := rN_some h
        exact g_nreturn X rfl hz hE dX1_isReady_47
      · have h := (if_pos hc).symm.trans h
        refine g_iconst X (pc := 42) (v := 1) dX1_isReady_42 (by decide) ?_
        refine g_goto X (pc := 43) (tgt := 47) dX1_isReady_43 (by decide) ?_
        obtain ⟨hz, rfl⟩ := rN_some h
        exact g_nreturn X rfl hz hE dX1_isReady_47
theorem wX1_isReady {x : GX} {n0 sl0 : Nat} (X : Cx x cX1_isReady RX1 (some .boolean) n0 sl0 2 40) {out : Int32 × Mm} (hE : Ends x n0 sl0 (some (pI out.1)) out.2) (hn : xn x = 1) (fu : Nat)   (a0 : Nat)  (M : Mm) (h : fX1_isReady fu  a0 M = some out) : Gw x M 0 [(0, pR (some a0))] [] := by
  unfold fX1_isReady at h
  refine g_aload_n X (pc := 0) 0 rfl rfl dX1_isReady_0 ?_
  obtain ⟨v1, ev1, h⟩ := bd h
  refine g_getI X (pc := 1) fk_1_0 rfl rfl ev1 tb_957 dX1_isReady_1 ?_
  refine g_iconst X (pc := 4) (v := 2) dX1_isReady_4 (by decide) ?_
  refine g_icmp_eq X (pc := 5) (tgt := 17) dX1_isReady_5 (by decide) (fun hc => ?_) (fun hc => ?_)
  · have h := (if_pos hc).symm.trans h
    exact wX1_isReady_L17 X hE hn fu   a0 M h
  · have h := (if_neg hc).symm.trans h
    refine g_aload_n X (pc := 8) 0 rfl rfl dX1_isReady_8 ?_
    obtain ⟨v2, ev2, h⟩ := bd h
    refine g_getI X (pc := 9) fk_1_0 rfl rfl ev2 tb_957 dX1_isReady_9 ?_
    refine g_bipush X (pc := 12) (v := 7) dX1_isReady_12 (by decide) ?_
    refine g_icmp_ne X (pc := 14) (tgt := 46) dX1_isReady_14 (by decide) (fun hc => ?_) (fun hc => ?_)
    · have h := (if_neg hc).symm.trans h
      refine g_iconst X (pc := 46) (v := 0) dX1_isReady_46 (by decide) ?_
      obtain ⟨hz, rfl⟩ := rN_some h
      exact g_nreturn X rfl hz hE dX1_isReady_47
    · have h := (if_pos hc).symm.trans h
      exact wX1_isReady_L17 X hE hn fu   a0 M h
theorem hyX1_isReady : yX1_isReady.cls ≠ "java/lang/invoke/MethodHandle" ∧ yX1_isReady.cls ≠ "java/lang/invoke/VarHandle" ∧ (parseMethodDescriptor yX1_isReady.desc).map (fun d => d.parameters.length) = some 0 := ⟨by decide +kernel, by decide +kernel, by decide +kernel⟩
theorem ctX1_isReady (l : Launch) (E : Nat → Nat) (D : va_G) (dA : Nat → ClassId) (lo : Nat) (H0 : Heap) (fu : Nat) (a0 : Nat) (M : Mm) (out : Int32 × Mm) (h : fX1_isReady fu a0 M = some out) : Ct l E D dA lo H0 yX1_isReady cX1_isReady 1 (some .boolean) 2 40 [pR (some a0)] M (some (pI out.1)) out.2 := by
  refine ct_of (by decide +kernel) (Nat.le_of_ble_eq_true rfl) ?_
  intro x hl he hd ha ho hh hn hin X hE
  exact wX1_isReady X hE hn fu a0 M h
/-! WebHost$Connection.segmentFrom(I)I -/
def fX1_segmentFrom (fu : Nat)  (a0 : Nat) (a1 : Int32)  (M : Mm) : Option (Int32 × Mm) :=
    (rc M 1 (some a0)).bind fun q1 =>
    b2 (fX1_dataEnd fu q1  M) fun v3 M2 =>
    (gR M2 1 81 (some a0)).bind fun v4 =>
    (gI M2 5 320 v4).bind fun v5 =>
    if (jmin v5 (v3 - a1)) = (v3 - a1) then (
    (gI M2 1 74 (some a0)).bind fun v6 =>
    if v6 = 0 then (
    some ((jmin v5 (v3 - a1)), M2))
    else (
    some (((jmin v5 (v3 - a1)) + (1 : Int32)), M2)))
    else (
    some ((jmin v5 (v3 - a1)), M2))
theorem dX1_segmentFrom_0 : decode cX1_segmentFrom 0 = .ok (.aload_n 0, 1) := by decide +kernel
theorem dX1_segmentFrom_1 : decode cX1_segmentFrom 1 = .ok (.invokevirtual 121, 3) := by decide +kernel
theorem dX1_segmentFrom_4 : decode cX1_segmentFrom 4 = .ok (.iload_n 1, 1) := by decide +kernel
theorem dX1_segmentFrom_5 : decode cX1_segmentFrom 5 = .ok (.isub, 1) := by decide +kernel
theorem dX1_segmentFrom_6 : decode cX1_segmentFrom 6 = .ok (.istore_n 2, 1) := by decide +kernel
theorem dX1_segmentFrom_7 : decode cX1_segmentFrom 7 = .ok (.aload_n 0, 1) := by decide +kernel
theorem dX1_segmentFrom_8 : decode cX1_segmentFrom 8 = .ok (.getfield 25, 3) := by decide +kernel
theorem dX1_segmentFrom_11 : decode cX1_segmentFrom 11 = .ok (.getfield 127, 3) := by decide +kernel
theorem dX1_segmentFrom_14 : decode cX1_segmentFrom 14 = .ok (.iload_n 2, 1) := by decide +kernel
theorem dX1_segmentFrom_15 : decode cX1_segmentFrom 15 = .ok (.invokestatic 129, 3) := by decide +kernel
theorem dX1_segmentFrom_18 : decode cX1_segmentFrom 18 = .ok (.istore_n 3, 1) := by decide +kernel
theorem dX1_segmentFrom_19 : decode cX1_segmentFrom 19 = .ok (.iload_n 3, 1) := by decide +kernel
theorem dX1_segmentFrom_20 : decode cX1_segmentFrom 20 = .ok (.iload_n 2, 1) := by decide +kernel
theorem dX1_segmentFrom_21 : decode cX1_segmentFrom 21 = .ok (.if_icmp .ne 16, 3) := by decide +kernel
theorem dX1_segmentFrom_24 : decode cX1_segmentFrom 24 = .ok (.aload_n 0, 1) := by decide +kernel
theorem dX1_segmentFrom_25 : decode cX1_segmentFrom 25 = .ok (.getfield 96, 3) := by decide +kernel
theorem dX1_segmentFrom_28 : decode cX1_segmentFrom 28 = .ok (.ifCond .eq 9, 3) := by decide +kernel
theorem dX1_segmentFrom_31 : decode cX1_segmentFrom 31 = .ok (.iload_n 3, 1) := by decide +kernel
theorem dX1_segmentFrom_32 : decode cX1_segmentFrom 32 = .ok (.iconst 1, 1) := by decide +kernel
theorem dX1_segmentFrom_33 : decode cX1_segmentFrom 33 = .ok (.iadd, 1) := by decide +kernel
theorem dX1_segmentFrom_34 : decode cX1_segmentFrom 34 = .ok (.goto 4, 3) := by decide +kernel
theorem dX1_segmentFrom_37 : decode cX1_segmentFrom 37 = .ok (.iload_n 3, 1) := by decide +kernel
theorem dX1_segmentFrom_38 : decode cX1_segmentFrom 38 = .ok (.ireturn, 1) := by decide +kernel
theorem wX1_segmentFrom {x : GX} {n0 sl0 : Nat} (X : Cx x cX1_segmentFrom RX1 (some .int) n0 sl0 1 20) {out : Int32 × Mm} (hE : Ends x n0 sl0 (some (pI out.1)) out.2) (hn : xn x = 4) (fu : Nat)   (a0 : Nat) (a1 : Int32)  (M : Mm) (h : fX1_segmentFrom fu  a0 a1 M = some out) : Gw x M 0 [(0, pR (some a0)), (1, pI a1)] [] := by
  unfold fX1_segmentFrom at h
  refine g_aload_n X (pc := 0) 0 rfl rfl dX1_segmentFrom_0 ?_
  obtain ⟨q1, eq1, h⟩ := bd h
  obtain ⟨v3, M2, eM2, h⟩ := b2d h
  refine g_callV X (pc := 1) (M' := M2) (ro := some (pI v3)) (c := 1) rfl (by decide) (as := []) (as' := []) (st := []) eq1 (ctX1_dataEnd _ _ _ _ _ _ fu q1  M _ eM2) tb_507 tb_504 tb_505 tb_506 tb_18 ⟨rfl, hyX1_dataEnd⟩ rfl rfl ⟨by decide, by decide⟩ (Nat.le_of_ble_eq_true rfl) dX1_segmentFrom_1 ?_
  refine g_iload_n X (pc := 4) 1 rfl rfl dX1_segmentFrom_4 ?_
  refine g_isub X (pc := 5) dX1_segmentFrom_5 ?_
  refine g_istore_n X (pc := 6) [(2, pI (v3 - a1)), (0, pR (some a0)), (1, pI a1)] rfl (lt_n hn (by decide)) rfl dX1_segmentFrom_6 ?_
  refine g_aload_n X (pc := 7) 1 rfl rfl dX1_segmentFrom_7 ?_
  obtain ⟨v4, ev4, h⟩ := bd h
  refine g_getR X (pc := 8) fk_1_17 rfl rfl ev4 tb_996 dX1_segmentFrom_8 ?_
  obtain ⟨v5, ev5, h⟩ := bd h
  refine g_getI X (pc := 11) fk_5_0 rfl rfl ev5 tb_902 dX1_segmentFrom_11 ?_
  refine g_iload_n X (pc := 14) 0 rfl rfl dX1_segmentFrom_14 ?_
  refine g_mmin X (pc := 15) tb_672 tb_348 tb_13 tb_349 ⟨by decide, Nat.le_of_ble_eq_true rfl⟩ dX1_segmentFrom_15 ?_
  refine g_istore_n X (pc := 18) [(3, pI (jmin v5 (v3 - a1))), (2, pI (v3 - a1)), (0, pR (some a0)), (1, pI a1)] rfl (lt_n hn (by decide)) rfl dX1_segmentFrom_18 ?_
  refine g_iload_n X (pc := 19) 0 rfl rfl dX1_segmentFrom_19 ?_
  refine g_iload_n X (pc := 20) 1 rfl rfl dX1_segmentFrom_20 ?_
  refine g_icmp_ne X (pc := 21) (tgt := 37) dX1_segmentFrom_21 (by decide) (fun hc => ?_) (fun hc => ?_)
  · have h := (if_neg hc).symm.trans h
    refine g_iload_n X (pc := 37) 0 rfl rfl dX1_segmentFrom_37 ?_
    obtain rfl := Option.some.inj h
    exact g_ireturn X hE dX1_segmentFrom_38
  · have h := (if_pos hc).symm.trans h
    refine g_aload_n X (pc := 24) 2 rfl rfl dX1_segmentFrom_24 ?_
    obtain ⟨v6, ev6, h⟩ := bd h
    refine g_getI X (pc := 25) fk_1_10 rfl rfl ev6 tb_980 dX1_segmentFrom_25 ?_
    refine g_if_eq X (pc := 28) (tgt := 37) dX1_segmentFrom_28 (by decide) (fun hc => ?_) (fun hc => ?_)
    · have h := (if_pos hc).symm.trans h
      refine g_iload_n X (pc := 37) 0 rfl rfl dX1_segmentFrom_37 ?_
      obtain rfl := Option.some.inj h
      exact g_ireturn X hE dX1_segmentFrom_38
    · have h := (if_neg hc).symm.trans h
      refine g_iload_n X (pc := 31) 0 rfl rfl dX1_segmentFrom_31 ?_
      refine g_iconst X (pc := 32) (v := 1) dX1_segmentFrom_32 (by decide) ?_
      refine g_iadd X (pc := 33) dX1_segmentFrom_33 ?_
      refine g_goto X (pc := 34) (tgt := 38) dX1_segmentFrom_34 (by decide) ?_
      obtain rfl := Option.some.inj h
      exact g_ireturn X hE dX1_segmentFrom_38
theorem hyX1_segmentFrom : yX1_segmentFrom.cls ≠ "java/lang/invoke/MethodHandle" ∧ yX1_segmentFrom.cls ≠ "java/lang/invoke/VarHandle" ∧ (parseMethodDescriptor yX1_segmentFrom.desc).map (fun d => d.parameters.length) = some 1 := ⟨by decide +kernel, by decide +kernel, by decide +kernel⟩
theorem ctX1_segmentFrom (l : Launch) (E : Nat → Nat) (D : va_G) (dA : Nat → ClassId) (lo : Nat) (H0 : Heap) (fu : Nat) (a0 : Nat) (a1 : Int32) (M : Mm) (out : Int32 × Mm) (h : fX1_segmentFrom fu a0 a1 M = some out) : Ct l E D dA lo H0 yX1_segmentFrom cX1_segmentFrom 4 (some .int) 1 20 [pR (some a0), pI a1] M (some (pI out.1)) out.2 := by
  refine ct_of (by decide +kernel) (Nat.le_of_ble_eq_true rfl) ?_
  intro x hl he hd ha ho hh hn hin X hE
  exact wX1_segmentFrom X hE hn fu a0 a1 M h
/-! WebHost$Connection.mayGo()I -/
def fX1_mayGo_L81 (fu : Nat)  (a1 : Int32) (a2 : Int32) (a3 : Int32) (s0 : Int32) (M : Mm) : Option (Int32 × Mm) :=
    if s0 = 0 then (
    if a3 = a1 then (
    some (a3, M))
    else (
    if a2 = 0 then (
    some (a3, M))
    else (
    some ((0 : Int32), M))))
    else (
    some (a3, M))
def fX1_mayGo (fu : Nat)  (a0 : Nat)  (M : Mm) : Option (Int32 × Mm) :=
    (rc M 1 (some a0)).bind fun q1 =>
    b2 (fX1_left fu q1  M) fun v3 M2 =>
    (gI M2 1 69 (some a0)).bind fun v4 =>
    (gI M2 1 68 (some a0)).bind fun v5 =>
    (gI M2 1 69 (some a0)).bind fun v6 =>
    (rc M2 1 (some a0)).bind fun q7 =>
    b2 (fX1_segmentFrom fu q7 v6 M2) fun v9 M8 =>
    (gR M8 1 81 (some a0)).bind fun v10 =>
    (gI M8 5 321 v10).bind fun v11 =>
    (gI M8 1 71 (some a0)).bind fun v12 =>
    if v3 ≤ 0 then (
    some ((0 : Int32), M8))
    else (
    if 0 < (jmin v9 ((jmin v11 v12) - (v4 - v5))) then (
    (rc M8 1 (some a0)).bind fun q13 =>
    b2 (fX1_dataEnd fu q13  M8) fun v15 M14 =>
    (gI M14 1 69 (some a0)).bind fun v16 =>
    (gR M14 1 81 (some a0)).bind fun v17 =>
    (gI M14 5 320 v17).bind fun v18 =>
    if (jmin (jmin v9 ((jmin v11 v12) - (v4 - v5))) (v15 - v16)) = v18 then (
    fX1_mayGo_L81 fu  v3 (v4 - v5) (jmin v9 ((jmin v11 v12) - (v4 - v5))) (1 : Int32) M14)
    else (
    fX1_mayGo_L81 fu  v3 (v4 - v5) (jmin v9 ((jmin v11 v12) - (v4 - v5))) (0 : Int32) M14))
    else (
    some ((0 : Int32), M8)))
theorem dX1_mayGo_0 : decode cX1_mayGo 0 = .ok (.aload_n 0, 1) := by decide +kernel
theorem dX1_mayGo_1 : decode cX1_mayGo 1 = .ok (.invokevirtual 124, 3) := by decide +kernel
theorem dX1_mayGo_4 : decode cX1_mayGo 4 = .ok (.istore_n 1, 1) := by decide +kernel
theorem dX1_mayGo_5 : decode cX1_mayGo 5 = .ok (.aload_n 0, 1) := by decide +kernel
theorem dX1_mayGo_6 : decode cX1_mayGo 6 = .ok (.getfield 53, 3) := by decide +kernel
theorem dX1_mayGo_9 : decode cX1_mayGo 9 = .ok (.aload_n 0, 1) := by decide +kernel
theorem dX1_mayGo_10 : decode cX1_mayGo 10 = .ok (.getfield 50, 3) := by decide +kernel
theorem dX1_mayGo_13 : decode cX1_mayGo 13 = .ok (.isub, 1) := by decide +kernel
theorem dX1_mayGo_14 : decode cX1_mayGo 14 = .ok (.istore_n 2, 1) := by decide +kernel
theorem dX1_mayGo_15 : decode cX1_mayGo 15 = .ok (.aload_n 0, 1) := by decide +kernel
theorem dX1_mayGo_16 : decode cX1_mayGo 16 = .ok (.aload_n 0, 1) := by decide +kernel
theorem dX1_mayGo_17 : decode cX1_mayGo 17 = .ok (.getfield 53, 3) := by decide +kernel
theorem dX1_mayGo_20 : decode cX1_mayGo 20 = .ok (.invokevirtual 135, 3) := by decide +kernel
theorem dX1_mayGo_23 : decode cX1_mayGo 23 = .ok (.aload_n 0, 1) := by decide +kernel
theorem dX1_mayGo_24 : decode cX1_mayGo 24 = .ok (.getfield 25, 3) := by decide +kernel
theorem dX1_mayGo_27 : decode cX1_mayGo 27 = .ok (.getfield 138, 3) := by decide +kernel
theorem dX1_mayGo_30 : decode cX1_mayGo 30 = .ok (.aload_n 0, 1) := by decide +kernel
theorem dX1_mayGo_31 : decode cX1_mayGo 31 = .ok (.getfield 62, 3) := by decide +kernel
theorem dX1_mayGo_34 : decode cX1_mayGo 34 = .ok (.invokestatic 129, 3) := by decide +kernel
theorem dX1_mayGo_37 : decode cX1_mayGo 37 = .ok (.iload_n 2, 1) := by decide +kernel
theorem dX1_mayGo_38 : decode cX1_mayGo 38 = .ok (.isub, 1) := by decide +kernel
theorem dX1_mayGo_39 : decode cX1_mayGo 39 = .ok (.invokestatic 129, 3) := by decide +kernel
theorem dX1_mayGo_42 : decode cX1_mayGo 42 = .ok (.istore_n 3, 1) := by decide +kernel
theorem dX1_mayGo_43 : decode cX1_mayGo 43 = .ok (.iload_n 1, 1) := by decide +kernel
theorem dX1_mayGo_44 : decode cX1_mayGo 44 = .ok (.ifCond .le 7, 3) := by decide +kernel
theorem dX1_mayGo_47 : decode cX1_mayGo 47 = .ok (.iload_n 3, 1) := by decide +kernel
theorem dX1_mayGo_48 : decode cX1_mayGo 48 = .ok (.ifCond .gt 5, 3) := by decide +kernel
theorem dX1_mayGo_51 : decode cX1_mayGo 51 = .ok (.iconst 0, 1) := by decide +kernel
theorem dX1_mayGo_52 : decode cX1_mayGo 52 = .ok (.ireturn, 1) := by decide +kernel
theorem dX1_mayGo_53 : decode cX1_mayGo 53 = .ok (.iload_n 3, 1) := by decide +kernel
theorem dX1_mayGo_54 : decode cX1_mayGo 54 = .ok (.aload_n 0, 1) := by decide +kernel
theorem dX1_mayGo_55 : decode cX1_mayGo 55 = .ok (.invokevirtual 121, 3) := by decide +kernel
theorem dX1_mayGo_58 : decode cX1_mayGo 58 = .ok (.aload_n 0, 1) := by decide +kernel
theorem dX1_mayGo_59 : decode cX1_mayGo 59 = .ok (.getfield 53, 3) := by decide +kernel
theorem dX1_mayGo_62 : decode cX1_mayGo 62 = .ok (.isub, 1) := by decide +kernel
theorem dX1_mayGo_63 : decode cX1_mayGo 63 = .ok (.invokestatic 129, 3) := by decide +kernel
theorem dX1_mayGo_66 : decode cX1_mayGo 66 = .ok (.aload_n 0, 1) := by decide +kernel
theorem dX1_mayGo_67 : decode cX1_mayGo 67 = .ok (.getfield 25, 3) := by decide +kernel
theorem dX1_mayGo_70 : decode cX1_mayGo 70 = .ok (.getfield 127, 3) := by decide +kernel
theorem dX1_mayGo_73 : decode cX1_mayGo 73 = .ok (.if_icmp .ne 7, 3) := by decide +kernel
theorem dX1_mayGo_76 : decode cX1_mayGo 76 = .ok (.iconst 1, 1) := by decide +kernel
theorem dX1_mayGo_77 : decode cX1_mayGo 77 = .ok (.goto 4, 3) := by decide +kernel
theorem dX1_mayGo_80 : decode cX1_mayGo 80 = .ok (.iconst 0, 1) := by decide +kernel
theorem dX1_mayGo_81 : decode cX1_mayGo 81 = .ok (.istore 4, 2) := by decide +kernel
theorem dX1_mayGo_83 : decode cX1_mayGo 83 = .ok (.iload 4, 2) := by decide +kernel
theorem dX1_mayGo_85 : decode cX1_mayGo 85 = .ok (.ifCond .ne 12, 3) := by decide +kernel
theorem dX1_mayGo_88 : decode cX1_mayGo 88 = .ok (.iload_n 3, 1) := by decide +kernel
theorem dX1_mayGo_89 : decode cX1_mayGo 89 = .ok (.iload_n 1, 1) := by decide +kernel
theorem dX1_mayGo_90 : decode cX1_mayGo 90 = .ok (.if_icmp .eq 7, 3) := by decide +kernel
theorem dX1_mayGo_93 : decode cX1_mayGo 93 = .ok (.iload_n 2, 1) := by decide +kernel
theorem dX1_mayGo_94 : decode cX1_mayGo 94 = .ok (.ifCond .ne 7, 3) := by decide +kernel
theorem dX1_mayGo_97 : decode cX1_mayGo 97 = .ok (.iload_n 3, 1) := by decide +kernel
theorem dX1_mayGo_98 : decode cX1_mayGo 98 = .ok (.goto 4, 3) := by decide +kernel
theorem dX1_mayGo_101 : decode cX1_mayGo 101 = .ok (.iconst 0, 1) := by decide +kernel
theorem dX1_mayGo_102 : decode cX1_mayGo 102 = .ok (.ireturn, 1) := by decide +kernel
theorem wX1_mayGo_L81 {x : GX} {n0 sl0 : Nat} (X : Cx x cX1_mayGo RX1 (some .int) n0 sl0 2 43) {out : Int32 × Mm} (hE : Ends x n0 sl0 (some (pI out.1)) out.2) (hn : xn x = 5) (fu : Nat)   (a1 : Int32) (a2 : Int32) (a3 : Int32) (s0 : Int32) (M : Mm) (h : fX1_mayGo_L81 fu  a1 a2 a3 s0 M = some out) : Gw x M 81 [(1, pI a1), (2, pI a2), (3, pI a3)] [pI s0] := by
  unfold fX1_mayGo_L81 at h
  refine g_istore X (pc := 81) [(4, pI s0), (1, pI a1), (2, pI a2), (3, pI a3)] (lt_n hn (by decide)) rfl dX1_mayGo_81 ?_
  refine g_iload X (pc := 83) 0 rfl dX1_mayGo_83 ?_
  refine g_if_ne X (pc := 85) (tgt := 97) dX1_mayGo_85 (by decide) (fun hc => ?_) (fun hc => ?_)
  · have h := (if_neg hc).symm.trans h
    refine g_iload_n X (pc := 97) 3 rfl rfl dX1_mayGo_97 ?_
    refine g_goto X (pc := 98) (tgt := 102) dX1_mayGo_98 (by decide) ?_
    obtain rfl := Option.some.inj h
    exact g_ireturn X hE dX1_mayGo_102
  · have h := (if_pos hc).symm.trans h
    refine g_iload_n X (pc := 88) 3 rfl rfl dX1_mayGo_88 ?_
    refine g_iload_n X (pc := 89) 1 rfl rfl dX1_mayGo_89 ?_
    refine g_icmp_eq X (pc := 90) (tgt := 97) dX1_mayGo_90 (by decide) (fun hc => ?_) (fun hc => ?_)
    · have h := (if_pos hc).symm.trans h
      refine g_iload_n X (pc := 97) 3 rfl rfl dX1_mayGo_97 ?_
      refine g_goto X (pc := 98) (tgt := 102) dX1_mayGo_98 (by decide) ?_
      obtain rfl := Option.some.inj h
      exact g_ireturn X hE dX1_mayGo_102
    · have h := (if_neg hc).symm.trans h
      refine g_iload_n X (pc := 93) 2 rfl rfl dX1_mayGo_93 ?_
      refine g_if_ne X (pc := 94) (tgt := 101) dX1_mayGo_94 (by decide) (fun hc => ?_) (fun hc => ?_)
      · have h := (if_neg hc).symm.trans h
        refine g_iconst X (pc := 101) (v := 0) dX1_mayGo_101 (by decide) ?_
        obtain rfl := Option.some.inj h
        exact g_ireturn X hE dX1_mayGo_102
      · have h := (if_pos hc).symm.trans h
        refine g_iload_n X (pc := 97) 3 rfl rfl dX1_mayGo_97 ?_
        refine g_goto X (pc := 98) (tgt := 102) dX1_mayGo_98 (by decide) ?_
        obtain rfl := Option.some.inj h
        exact g_ireturn X hE dX1_mayGo_102
theorem wX1_mayGo {x : GX} {n0 sl0 : Nat} (X : Cx x cX1_mayGo RX1 (some .int) n0 sl0 2 43) {out : Int32 × Mm} (hE : Ends x n0 sl0 (some (pI out.1)) out.2) (hn : xn x = 5) (fu : Nat)   (a0 : Nat)  (M : Mm) (h : fX1_mayGo fu  a0 M = some out) : Gw x M 0 [(0, pR (some a0))] [] := by
  unfold fX1_mayGo at h
  refine g_aload_n X (pc := 0) 0 rfl rfl dX1_mayGo_0 ?_
  obtain ⟨q1, eq1, h⟩ := bd h
  obtain ⟨v3, M2, eM2, h⟩ := b2d h
  refine g_callV X (pc := 1) (M' := M2) (ro := some (pI v3)) (c := 1) rfl (by decide) (as := []) (as' := []) (st := []) eq1 (ctX1_left _ _ _ _ _ _ fu q1  M _ eM2) tb_503 tb_500 tb_501 tb_502 tb_18 ⟨rfl, hyX1_left⟩ rfl rfl ⟨by decide, by decide⟩ (Nat.le_of_ble_eq_true rfl) dX1_mayGo_1 ?_
  refine g_istore_n X (pc := 4) [(1, pI v3), (0, pR (some a0))] rfl (lt_n hn (by decide)) rfl dX1_mayGo_4 ?_
  refine g_aload_n X (pc := 5) 1 rfl rfl dX1_mayGo_5 ?_
  obtain ⟨v4, ev4, h⟩ := bd h
  refine g_getI X (pc := 6) fk_1_5 rfl rfl ev4 tb_969 dX1_mayGo_6 ?_
  refine g_aload_n X (pc := 9) 1 rfl rfl dX1_mayGo_9 ?_
  obtain ⟨v5, ev5, h⟩ := bd h
  refine g_getI X (pc := 10) fk_1_4 rfl rfl ev5 tb_967 dX1_mayGo_10 ?_
  refine g_isub X (pc := 13) dX1_mayGo_13 ?_
  refine g_istore_n X (pc := 14) [(2, pI (v4 - v5)), (1, pI v3), (0, pR (some a0))] rfl (lt_n hn (by decide)) rfl dX1_mayGo_14 ?_
  refine g_aload_n X (pc := 15) 2 rfl rfl dX1_mayGo_15 ?_
  refine g_aload_n X (pc := 16) 2 rfl rfl dX1_mayGo_16 ?_
  obtain ⟨v6, ev6, h⟩ := bd h
  refine g_getI X (pc := 17) fk_1_5 rfl rfl ev6 tb_969 dX1_mayGo_17 ?_
  obtain ⟨q7, eq7, h⟩ := bd h
  obtain ⟨v9, M8, eM8, h⟩ := b2d h
  refine g_callV X (pc := 20) (M' := M8) (ro := some (pI v9)) (c := 1) rfl (by decide) (as := [pI v6]) (as' := [pI v6]) (st := []) eq7 (ctX1_segmentFrom _ _ _ _ _ _ fu q7 v6 M2 _ eM8) tb_671 tb_667 tb_669 ts_19 tb_18 ⟨rfl, hyX1_segmentFrom⟩ rfl rfl ⟨by decide, by decide⟩ (Nat.le_of_ble_eq_true rfl) dX1_mayGo_20 ?_
  refine g_aload_n X (pc := 23) 2 rfl rfl dX1_mayGo_23 ?_
  obtain ⟨v10, ev10, h⟩ := bd h
  refine g_getR X (pc := 24) fk_1_17 rfl rfl ev10 tb_996 dX1_mayGo_24 ?_
  obtain ⟨v11, ev11, h⟩ := bd h
  refine g_getI X (pc := 27) fk_5_1 rfl rfl ev11 tb_904 dX1_mayGo_27 ?_
  refine g_aload_n X (pc := 30) 2 rfl rfl dX1_mayGo_30 ?_
  obtain ⟨v12, ev12, h⟩ := bd h
  refine g_getI X (pc := 31) fk_1_7 rfl rfl ev12 tb_974 dX1_mayGo_31 ?_
  refine g_mmin X (pc := 34) tb_672 tb_348 tb_13 tb_349 ⟨by decide, Nat.le_of_ble_eq_true rfl⟩ dX1_mayGo_34 ?_
  refine g_iload_n X (pc := 37) 0 rfl rfl dX1_mayGo_37 ?_
  refine g_isub X (pc := 38) dX1_mayGo_38 ?_
  refine g_mmin X (pc := 39) tb_672 tb_348 tb_13 tb_349 ⟨by decide, Nat.le_of_ble_eq_true rfl⟩ dX1_mayGo_39 ?_
  refine g_istore_n X (pc := 42) [(3, pI (jmin v9 ((jmin v11 v12) - (v4 - v5)))), (2, pI (v4 - v5)), (1, pI v3), (0, pR (some a0))] rfl (lt_n hn (by decide)) rfl dX1_mayGo_42 ?_
  refine g_iload_n X (pc := 43) 2 rfl rfl dX1_mayGo_43 ?_
  refine g_if_le X (pc := 44) (tgt := 51) dX1_mayGo_44 (by decide) (fun hc => ?_) (fun hc => ?_)
  · have h := (if_pos hc).symm.trans h
    refine g_iconst X (pc := 51) (v := 0) dX1_mayGo_51 (by decide) ?_
    obtain rfl := Option.some.inj h
    exact g_ireturn X hE dX1_mayGo_52
  · have h := (if_neg hc).symm.trans h
    refine g_iload_n X (pc := 47) 0 rfl rfl dX1_mayGo_47 ?_
    refine g_if_gt X (pc := 48) (tgt := 53) dX1_mayGo_48 (by decide) (fun hc => ?_) (fun hc => ?_)
    · have h := (if_pos hc).symm.trans h
      refine g_iload_n X (pc := 53) 0 rfl rfl dX1_mayGo_53 ?_
      refine g_aload_n X (pc := 54) 3 rfl rfl dX1_mayGo_54 ?_
      obtain ⟨q13, eq13, h⟩ := bd h
      obtain ⟨v15, M14, eM14, h⟩ := b2d h
      refine g_callV X (pc := 55) (M' := M14) (ro := some (pI v15)) (c := 1) rfl (by decide) (as := []) (as' := []) (st := [pI (jmin v9 ((jmin v11 v12) - (v4 - v5)))]) eq13 (ctX1_dataEnd _ _ _ _ _ _ fu q13  M8 _ eM14) tb_507 tb_504 tb_505 tb_506 tb_18 ⟨rfl, hyX1_dataEnd⟩ rfl rfl ⟨by decide, by decide⟩ (Nat.le_of_ble_eq_true rfl) dX1_mayGo_55 ?_
      refine g_aload_n X (pc := 58) 3 rfl rfl dX1_mayGo_58 ?_
      obtain ⟨v16, ev16, h⟩ := bd h
      refine g_getI X (pc := 59) fk_1_5 rfl rfl ev16 tb_969 dX1_mayGo_59 ?_
      refine g_isub X (pc := 62) dX1_mayGo_62 ?_
      refine g_mmin X (pc := 63) tb_672 tb_348 tb_13 tb_349 ⟨by decide, Nat.le_of_ble_eq_true rfl⟩ dX1_mayGo_63 ?_
      refine g_aload_n X (pc := 66) 3 rfl rfl dX1_mayGo_66 ?_
      obtain ⟨v17, ev17, h⟩ := bd h
      refine g_getR X (pc := 67) fk_1_17 rfl rfl ev17 tb_996 dX1_mayGo_67 ?_
      obtain ⟨v18, ev18, h⟩ := bd h
      refine g_getI X (pc := 70) fk_5_0 rfl rfl ev18 tb_902 dX1_mayGo_70 ?_
      refine g_icmp_ne X (pc := 73) (tgt := 80) dX1_mayGo_73 (by decide) (fun hc => ?_) (fun hc => ?_)
      · have h := (if_neg hc).symm.trans h
        refine g_iconst X (pc := 80) (v := 0) dX1_mayGo_80 (by decide) ?_
        refine g_sub [2, 1, 0] [(1, pI v3), (2, pI (v4 - v5)), (3, pI (jmin v9 ((jmin v11 v12) - (v4 - v5))))] rfl ?_
        exact wX1_mayGo_L81 X hE hn fu   v3 (v4 - v5) (jmin v9 ((jmin v11 v12) - (v4 - v5))) (0 : Int32) M14 h
      · have h := (if_pos hc).symm.trans h
        refine g_iconst X (pc := 76) (v := 1) dX1_mayGo_76 (by decide) ?_
        refine g_goto X (pc := 77) (tgt := 81) dX1_mayGo_77 (by decide) ?_
        refine g_sub [2, 1, 0] [(1, pI v3), (2, pI (v4 - v5)), (3, pI (jmin v9 ((jmin v11 v12) - (v4 - v5))))] rfl ?_
        exact wX1_mayGo_L81 X hE hn fu   v3 (v4 - v5) (jmin v9 ((jmin v11 v12) - (v4 - v5))) (1 : Int32) M14 h
    · have h := (if_neg hc).symm.trans h
      refine g_iconst X (pc := 51) (v := 0) dX1_mayGo_51 (by decide) ?_
      obtain rfl := Option.some.inj h
      exact g_ireturn X hE dX1_mayGo_52
theorem hyX1_mayGo : yX1_mayGo.cls ≠ "java/lang/invoke/MethodHandle" ∧ yX1_mayGo.cls ≠ "java/lang/invoke/VarHandle" ∧ (parseMethodDescriptor yX1_mayGo.desc).map (fun d => d.parameters.length) = some 0 := ⟨by decide +kernel, by decide +kernel, by decide +kernel⟩
theorem ctX1_mayGo (l : Launch) (E : Nat → Nat) (D : va_G) (dA : Nat → ClassId) (lo : Nat) (H0 : Heap) (fu : Nat) (a0 : Nat) (M : Mm) (out : Int32 × Mm) (h : fX1_mayGo fu a0 M = some out) : Ct l E D dA lo H0 yX1_mayGo cX1_mayGo 5 (some .int) 2 43 [pR (some a0)] M (some (pI out.1)) out.2 := by
  refine ct_of (by decide +kernel) (Nat.le_of_ble_eq_true rfl) ?_
  intro x hl he hd ha ho hh hn hin X hE
  exact wX1_mayGo X hE hn fu a0 M h
/-! WebHost$Connection.goesAgain()I -/
def fX1_goesAgain (fu : Nat)  (a0 : Nat)  (M : Mm) : Option (Int32 × Mm) :=
    (gI M 1 68 (some a0)).bind fun v1 =>
    (rc M 1 (some a0)).bind fun q2 =>
    b2 (fX1_segmentFrom fu q2 v1 M) fun v4 M3 =>
    (gI M3 1 70 (some a0)).bind fun v5 =>
    (gI M3 1 68 (some a0)).bind fun v6 =>
    some ((jmin v4 (v5 - v6)), M3)
theorem dX1_goesAgain_0 : decode cX1_goesAgain 0 = .ok (.aload_n 0, 1) := by decide +kernel
theorem dX1_goesAgain_1 : decode cX1_goesAgain 1 = .ok (.aload_n 0, 1) := by decide +kernel
theorem dX1_goesAgain_2 : decode cX1_goesAgain 2 = .ok (.getfield 50, 3) := by decide +kernel
theorem dX1_goesAgain_5 : decode cX1_goesAgain 5 = .ok (.invokevirtual 135, 3) := by decide +kernel
theorem dX1_goesAgain_8 : decode cX1_goesAgain 8 = .ok (.aload_n 0, 1) := by decide +kernel
theorem dX1_goesAgain_9 : decode cX1_goesAgain 9 = .ok (.getfield 56, 3) := by decide +kernel
theorem dX1_goesAgain_12 : decode cX1_goesAgain 12 = .ok (.aload_n 0, 1) := by decide +kernel
theorem dX1_goesAgain_13 : decode cX1_goesAgain 13 = .ok (.getfield 50, 3) := by decide +kernel
theorem dX1_goesAgain_16 : decode cX1_goesAgain 16 = .ok (.isub, 1) := by decide +kernel
theorem dX1_goesAgain_17 : decode cX1_goesAgain 17 = .ok (.invokestatic 129, 3) := by decide +kernel
theorem dX1_goesAgain_20 : decode cX1_goesAgain 20 = .ok (.ireturn, 1) := by decide +kernel
theorem wX1_goesAgain {x : GX} {n0 sl0 : Nat} (X : Cx x cX1_goesAgain RX1 (some .int) n0 sl0 2 43) {out : Int32 × Mm} (hE : Ends x n0 sl0 (some (pI out.1)) out.2) (hn : xn x = 1) (fu : Nat)   (a0 : Nat)  (M : Mm) (h : fX1_goesAgain fu  a0 M = some out) : Gw x M 0 [(0, pR (some a0))] [] := by
  unfold fX1_goesAgain at h
  refine g_aload_n X (pc := 0) 0 rfl rfl dX1_goesAgain_0 ?_
  refine g_aload_n X (pc := 1) 0 rfl rfl dX1_goesAgain_1 ?_
  obtain ⟨v1, ev1, h⟩ := bd h
  refine g_getI X (pc := 2) fk_1_4 rfl rfl ev1 tb_967 dX1_goesAgain_2 ?_
  obtain ⟨q2, eq2, h⟩ := bd h
  obtain ⟨v4, M3, eM3, h⟩ := b2d h
  refine g_callV X (pc := 5) (M' := M3) (ro := some (pI v4)) (c := 1) rfl (by decide) (as := [pI v1]) (as' := [pI v1]) (st := []) eq2 (ctX1_segmentFrom _ _ _ _ _ _ fu q2 v1 M _ eM3) tb_671 tb_667 tb_669 ts_19 tb_18 ⟨rfl, hyX1_segmentFrom⟩ rfl rfl ⟨by decide, by decide⟩ (Nat.le_of_ble_eq_true rfl) dX1_goesAgain_5 ?_
  refine g_aload_n X (pc := 8) 0 rfl rfl dX1_goesAgain_8 ?_
  obtain ⟨v5, ev5, h⟩ := bd h
  refine g_getI X (pc := 9) fk_1_6 rfl rfl ev5 tb_972 dX1_goesAgain_9 ?_
  refine g_aload_n X (pc := 12) 0 rfl rfl dX1_goesAgain_12 ?_
  obtain ⟨v6, ev6, h⟩ := bd h
  refine g_getI X (pc := 13) fk_1_4 rfl rfl ev6 tb_967 dX1_goesAgain_13 ?_
  refine g_isub X (pc := 16) dX1_goesAgain_16 ?_
  refine g_mmin X (pc := 17) tb_672 tb_348 tb_13 tb_349 ⟨by decide, Nat.le_of_ble_eq_true rfl⟩ dX1_goesAgain_17 ?_
  obtain rfl := Option.some.inj h
  exact g_ireturn X hE dX1_goesAgain_20
theorem hyX1_goesAgain : yX1_goesAgain.cls ≠ "java/lang/invoke/MethodHandle" ∧ yX1_goesAgain.cls ≠ "java/lang/invoke/VarHandle" ∧ (parseMethodDescriptor yX1_goesAgain.desc).map (fun d => d.parameters.length) = some 0 := ⟨by decide +kernel, by decide +kernel, by decide +kernel⟩
theorem ctX1_goesAgain (l : Launch) (E : Nat → Nat) (D : va_G) (dA : Nat → ClassId) (lo : Nat) (H0 : Heap) (fu : Nat) (a0 : Nat) (M : Mm) (out : Int32 × Mm) (h : fX1_goesAgain fu a0 M = some out) : Ct l E D dA lo H0 yX1_goesAgain cX1_goesAgain 1 (some .int) 2 43 [pR (some a0)] M (some (pI out.1)) out.2 := by
  refine ct_of (by decide +kernel) (Nat.le_of_ble_eq_true rfl) ?_
  intro x hl he hd ha ho hh hn hin X hE
  exact wX1_goesAgain X hE hn fu a0 M h
/-! WebHost$Connection.advance(I)V -/
def fX1_advance (fu : Nat)  (a0 : Nat) (a1 : Int32)  (M : Mm) : Option (Mm) :=
    (gI M 1 69 (some a0)).bind fun v1 =>
    (pF M 1 69 (some a0) (v1 + a1)).bind fun M2 =>
    (gI M2 1 69 (some a0)).bind fun v3 =>
    (gI M2 1 70 (some a0)).bind fun v4 =>
    if (v3 - v4) ≤ 0 then (
    some M2)
    else (
    (gI M2 1 69 (some a0)).bind fun v5 =>
    (pF M2 1 70 (some a0) v5).bind fun M6 =>
    some M6)
theorem dX1_advance_0 : decode cX1_advance 0 = .ok (.aload_n 0, 1) := by decide +kernel
theorem dX1_advance_1 : decode cX1_advance 1 = .ok (.dup, 1) := by decide +kernel
theorem dX1_advance_2 : decode cX1_advance 2 = .ok (.getfield 53, 3) := by decide +kernel
theorem dX1_advance_5 : decode cX1_advance 5 = .ok (.iload_n 1, 1) := by decide +kernel
theorem dX1_advance_6 : decode cX1_advance 6 = .ok (.iadd, 1) := by decide +kernel
theorem dX1_advance_7 : decode cX1_advance 7 = .ok (.putfield 53, 3) := by decide +kernel
theorem dX1_advance_10 : decode cX1_advance 10 = .ok (.aload_n 0, 1) := by decide +kernel
theorem dX1_advance_11 : decode cX1_advance 11 = .ok (.getfield 53, 3) := by decide +kernel
theorem dX1_advance_14 : decode cX1_advance 14 = .ok (.aload_n 0, 1) := by decide +kernel
theorem dX1_advance_15 : decode cX1_advance 15 = .ok (.getfield 56, 3) := by decide +kernel
theorem dX1_advance_18 : decode cX1_advance 18 = .ok (.isub, 1) := by decide +kernel
theorem dX1_advance_19 : decode cX1_advance 19 = .ok (.ifCond .le 11, 3) := by decide +kernel
theorem dX1_advance_22 : decode cX1_advance 22 = .ok (.aload_n 0, 1) := by decide +kernel
theorem dX1_advance_23 : decode cX1_advance 23 = .ok (.aload_n 0, 1) := by decide +kernel
theorem dX1_advance_24 : decode cX1_advance 24 = .ok (.getfield 53, 3) := by decide +kernel
theorem dX1_advance_27 : decode cX1_advance 27 = .ok (.putfield 56, 3) := by decide +kernel
theorem dX1_advance_30 : decode cX1_advance 30 = .ok (.return_, 1) := by decide +kernel
theorem wX1_advance {x : GX} {n0 sl0 : Nat} (X : Cx x cX1_advance RX1 none n0 sl0 0 0) {out : Mm} (hE : Ends x n0 sl0 none out) (hn : xn x = 2) (fu : Nat)   (a0 : Nat) (a1 : Int32)  (M : Mm) (h : fX1_advance fu  a0 a1 M = some out) : Gw x M 0 [(0, pR (some a0)), (1, pI a1)] [] := by
  unfold fX1_advance at h
  refine g_aload_n X (pc := 0) 0 rfl rfl dX1_advance_0 ?_
  refine g_dup X (pc := 1) rfl dX1_advance_1 ?_
  obtain ⟨v1, ev1, h⟩ := bd h
  refine g_getI X (pc := 2) fk_1_5 rfl rfl ev1 tb_969 dX1_advance_2 ?_
  refine g_iload_n X (pc := 5) 1 rfl rfl dX1_advance_5 ?_
  refine g_iadd X (pc := 6) dX1_advance_6 ?_
  obtain ⟨M2, eM2, h⟩ := bd h
  refine g_putI X (pc := 7) fk_1_5 rfl rfl rfl eM2 tb_969 (Or.inl rfl) dX1_advance_7 ?_
  refine g_aload_n X (pc := 10) 0 rfl rfl dX1_advance_10 ?_
  obtain ⟨v3, ev3, h⟩ := bd h
  refine g_getI X (pc := 11) fk_1_5 rfl rfl ev3 tb_969 dX1_advance_11 ?_
  refine g_aload_n X (pc := 14) 0 rfl rfl dX1_advance_14 ?_
  obtain ⟨v4, ev4, h⟩ := bd h
  refine g_getI X (pc := 15) fk_1_6 rfl rfl ev4 tb_972 dX1_advance_15 ?_
  refine g_isub X (pc := 18) dX1_advance_18 ?_
  refine g_if_le X (pc := 19) (tgt := 30) dX1_advance_19 (by decide) (fun hc => ?_) (fun hc => ?_)
  · have h := (if_pos hc).symm.trans h
    obtain rfl := Option.some.inj h
    exact g_return X hE dX1_advance_30
  · have h := (if_neg hc).symm.trans h
    refine g_aload_n X (pc := 22) 0 rfl rfl dX1_advance_22 ?_
    refine g_aload_n X (pc := 23) 0 rfl rfl dX1_advance_23 ?_
    obtain ⟨v5, ev5, h⟩ := bd h
    refine g_getI X (pc := 24) fk_1_5 rfl rfl ev5 tb_969 dX1_advance_24 ?_
    obtain ⟨M6, eM6, h⟩ := bd h
    refine g_putI X (pc := 27) fk_1_6 rfl rfl rfl eM6 tb_972 (Or.inl rfl) dX1_advance_27 ?_
    obtain rfl := Option.some.inj h
    exact g_return X hE dX1_advance_30
theorem hyX1_advance : yX1_advance.cls ≠ "java/lang/invoke/MethodHandle" ∧ yX1_advance.cls ≠ "java/lang/invoke/VarHandle" ∧ (parseMethodDescriptor yX1_advance.desc).map (fun d => d.parameters.length) = some 1 := ⟨by decide +kernel, by decide +kernel, by decide +kernel⟩
theorem ctX1_advance (l : Launch) (E : Nat → Nat) (D : va_G) (dA : Nat → ClassId) (lo : Nat) (H0 : Heap) (fu : Nat) (a0 : Nat) (a1 : Int32) (M : Mm) (out : Mm) (h : fX1_advance fu a0 a1 M = some out) : Ct l E D dA lo H0 yX1_advance cX1_advance 2 none 0 0 [pR (some a0), pI a1] M none out := by
  refine ct_of (by decide +kernel) (Nat.le_of_ble_eq_true rfl) ?_
  intro x hl he hd ha ho hh hn hin X hE
  exact wX1_advance X hE hn fu a0 a1 M h
/-! WebHost$Connection.isWindowNewer(LWebHost$Intake;)Z -/
def fX1_isWindowNewer (fu : Nat)  (a0 : Nat) (a1 : Option Nat)  (M : Mm) : Option (Int32 × Mm) :=
    (gI M 1 82 (some a0)).bind fun v1 =>
    (gI M 3 196 a1).bind fun v2 =>
    if (v1 - v2) < 0 then (
    rN .boolean (1 : Int32) M)
    else (
    (gI M 1 82 (some a0)).bind fun v3 =>
    (gI M 3 196 a1).bind fun v4 =>
    if v3 = v4 then (
    (gI M 3 197 a1).bind fun v5 =>
    (gI M 1 83 (some a0)).bind fun v6 =>
    if (v5 - v6) < 0 then (
    rN .boolean (0 : Int32) M)
    else (
    rN .boolean (1 : Int32) M))
    else (
    rN .boolean (0 : Int32) M))
theorem dX1_isWindowNewer_0 : decode cX1_isWindowNewer 0 = .ok (.aload_n 0, 1) := by decide +kernel
theorem dX1_isWindowNewer_1 : decode cX1_isWindowNewer 1 = .ok (.getfield 66, 3) := by decide +kernel
theorem dX1_isWindowNewer_4 : decode cX1_isWindowNewer 4 = .ok (.aload_n 1, 1) := by decide +kernel
theorem dX1_isWindowNewer_5 : decode cX1_isWindowNewer 5 = .ok (.getfield 63, 3) := by decide +kernel
theorem dX1_isWindowNewer_8 : decode cX1_isWindowNewer 8 = .ok (.isub, 1) := by decide +kernel
theorem dX1_isWindowNewer_9 : decode cX1_isWindowNewer 9 = .ok (.ifCond .lt 26, 3) := by decide +kernel
theorem dX1_isWindowNewer_12 : decode cX1_isWindowNewer 12 = .ok (.aload_n 0, 1) := by decide +kernel
theorem dX1_isWindowNewer_13 : decode cX1_isWindowNewer 13 = .ok (.getfield 66, 3) := by decide +kernel
theorem dX1_isWindowNewer_16 : decode cX1_isWindowNewer 16 = .ok (.aload_n 1, 1) := by decide +kernel
theorem dX1_isWindowNewer_17 : decode cX1_isWindowNewer 17 = .ok (.getfield 63, 3) := by decide +kernel
theorem dX1_isWindowNewer_20 : decode cX1_isWindowNewer 20 = .ok (.if_icmp .ne 19, 3) := by decide +kernel
theorem dX1_isWindowNewer_23 : decode cX1_isWindowNewer 23 = .ok (.aload_n 1, 1) := by decide +kernel
theorem dX1_isWindowNewer_24 : decode cX1_isWindowNewer 24 = .ok (.getfield 141, 3) := by decide +kernel
theorem dX1_isWindowNewer_27 : decode cX1_isWindowNewer 27 = .ok (.aload_n 0, 1) := by decide +kernel
theorem dX1_isWindowNewer_28 : decode cX1_isWindowNewer 28 = .ok (.getfield 69, 3) := by decide +kernel
theorem dX1_isWindowNewer_31 : decode cX1_isWindowNewer 31 = .ok (.isub, 1) := by decide +kernel
theorem dX1_isWindowNewer_32 : decode cX1_isWindowNewer 32 = .ok (.ifCond .lt 7, 3) := by decide +kernel
theorem dX1_isWindowNewer_35 : decode cX1_isWindowNewer 35 = .ok (.iconst 1, 1) := by decide +kernel
theorem dX1_isWindowNewer_36 : decode cX1_isWindowNewer 36 = .ok (.goto 4, 3) := by decide +kernel
theorem dX1_isWindowNewer_39 : decode cX1_isWindowNewer 39 = .ok (.iconst 0, 1) := by decide +kernel
theorem dX1_isWindowNewer_40 : decode cX1_isWindowNewer 40 = .ok (.ireturn, 1) := by decide +kernel
theorem wX1_isWindowNewer {x : GX} {n0 sl0 : Nat} (X : Cx x cX1_isWindowNewer RX1 (some .boolean) n0 sl0 0 0) {out : Int32 × Mm} (hE : Ends x n0 sl0 (some (pI out.1)) out.2) (hn : xn x = 2) (fu : Nat)   (a0 : Nat) (a1 : Option Nat)  (M : Mm) (h : fX1_isWindowNewer fu  a0 a1 M = some out) : Gw x M 0 [(0, pR (some a0)), (1, pR a1)] [] := by
  unfold fX1_isWindowNewer at h
  refine g_aload_n X (pc := 0) 0 rfl rfl dX1_isWindowNewer_0 ?_
  obtain ⟨v1, ev1, h⟩ := bd h
  refine g_getI X (pc := 1) fk_1_18 rfl rfl ev1 tb_999 dX1_isWindowNewer_1 ?_
  refine g_aload_n X (pc := 4) 1 rfl rfl dX1_isWindowNewer_4 ?_
  obtain ⟨v2, ev2, h⟩ := bd h
  refine g_getI X (pc := 5) fk_3_4 rfl rfl ev2 tb_168 dX1_isWindowNewer_5 ?_
  refine g_isub X (pc := 8) dX1_isWindowNewer_8 ?_
  refine g_if_lt X (pc := 9) (tgt := 35) dX1_isWindowNewer_9 (by decide) (fun hc => ?_) (fun hc => ?_)
  · have h := (if_pos hc).symm.trans h
    refine g_iconst X (pc := 35) (v := 1) dX1_isWindowNewer_35 (by decide) ?_
    refine g_goto X (pc := 36) (tgt := 40) dX1_isWindowNewer_36 (by decide) ?_
    obtain ⟨hz, rfl⟩ := rN_some h
    exact g_nreturn X rfl hz hE dX1_isWindowNewer_40
  · have h := (if_neg hc).symm.trans h
    refine g_aload_n X (pc := 12) 0 rfl rfl dX1_isWindowNewer_12 ?_
    obtain ⟨v3, ev3, h⟩ := bd h
    refine g_getI X (pc := 13) fk_1_18 rfl rfl ev3 tb_999 dX1_isWindowNewer_13 ?_
    refine g_aload_n X (pc := 16) 1 rfl rfl dX1_isWindowNewer_16 ?_
    obtain ⟨v4, ev4, h⟩ := bd h
    refine g_getI X (pc := 17) fk_3_4 rfl rfl ev4 tb_168 dX1_isWindowNewer_17 ?_
    refine g_icmp_ne X (pc := 20) (tgt := 39) dX1_isWindowNewer_20 (by decide) (fun hc => ?_) (fun hc => ?_)
    · have h := (if_neg hc).symm.trans h
      refine g_iconst X (pc := 39) (v := 0) dX1_isWindowNewer_39 (by decide) ?_
      obtain ⟨hz, rfl⟩ := rN_some h
      exact g_nreturn X rfl hz hE dX1_isWindowNewer_40
    · have h := (if_pos hc).symm.trans h
      refine g_aload_n X (pc := 23) 1 rfl rfl dX1_isWindowNewer_23 ?_
      obtain ⟨v5, ev5, h⟩ := bd h
      refine g_getI X (pc := 24) fk_3_5 rfl rfl ev5 tb_174 dX1_isWindowNewer_24 ?_
      refine g_aload_n X (pc := 27) 0 rfl rfl dX1_isWindowNewer_27 ?_
      obtain ⟨v6, ev6, h⟩ := bd h
      refine g_getI X (pc := 28) fk_1_19 rfl rfl ev6 tb_1000 dX1_isWindowNewer_28 ?_
      refine g_isub X (pc := 31) dX1_isWindowNewer_31 ?_
      refine g_if_lt X (pc := 32) (tgt := 39) dX1_isWindowNewer_32 (by decide) (fun hc => ?_) (fun hc => ?_)
      · have h := (if_pos hc).symm.trans h
        refine g_iconst X (pc := 39) (v := 0) dX1_isWindowNewer_39 (by decide) ?_
        obtain ⟨hz, rfl⟩ := rN_some h
        exact g_nreturn X rfl hz hE dX1_isWindowNewer_40
      · have h := (if_neg hc).symm.trans h
        refine g_iconst X (pc := 35) (v := 1) dX1_isWindowNewer_35 (by decide) ?_
        refine g_goto X (pc := 36) (tgt := 40) dX1_isWindowNewer_36 (by decide) ?_
        obtain ⟨hz, rfl⟩ := rN_some h
        exact g_nreturn X rfl hz hE dX1_isWindowNewer_40
theorem hyX1_isWindowNewer : yX1_isWindowNewer.cls ≠ "java/lang/invoke/MethodHandle" ∧ yX1_isWindowNewer.cls ≠ "java/lang/invoke/VarHandle" ∧ (parseMethodDescriptor yX1_isWindowNewer.desc).map (fun d => d.parameters.length) = some 1 := ⟨by decide +kernel, by decide +kernel, by decide +kernel⟩
theorem ctX1_isWindowNewer (l : Launch) (E : Nat → Nat) (D : va_G) (dA : Nat → ClassId) (lo : Nat) (H0 : Heap) (fu : Nat) (a0 : Nat) (a1 : Option Nat) (M : Mm) (out : Int32 × Mm) (h : fX1_isWindowNewer fu a0 a1 M = some out) : Ct l E D dA lo H0 yX1_isWindowNewer cX1_isWindowNewer 2 (some .boolean) 0 0 [pR (some a0), pR a1] M (some (pI out.1)) out.2 := by
  refine ct_of (by decide +kernel) (Nat.le_of_ble_eq_true rfl) ?_
  intro x hl he hd ha ho hh hn hin X hE
  exact wX1_isWindowNewer X hE hn fu a0 a1 M h
/-! WebHost$Connection.takeWindow(LWebHost$Intake;)V -/
def fX1_takeWindow (fu : Nat)  (a0 : Nat) (a1 : Option Nat)  (M : Mm) : Option (Mm) :=
    (gI M 3 199 a1).bind fun v1 =>
    (pF M 1 71 (some a0) v1).bind fun M2 =>
    (gI M2 3 196 a1).bind fun v3 =>
    (pF M2 1 82 (some a0) v3).bind fun M4 =>
    (gI M4 3 197 a1).bind fun v5 =>
    (pF M4 1 83 (some a0) v5).bind fun M6 =>
    some M6
theorem dX1_takeWindow_0 : decode cX1_takeWindow 0 = .ok (.aload_n 0, 1) := by decide +kernel
theorem dX1_takeWindow_1 : decode cX1_takeWindow 1 = .ok (.aload_n 1, 1) := by decide +kernel
theorem dX1_takeWindow_2 : decode cX1_takeWindow 2 = .ok (.getfield 59, 3) := by decide +kernel
theorem dX1_takeWindow_5 : decode cX1_takeWindow 5 = .ok (.putfield 62, 3) := by decide +kernel
theorem dX1_takeWindow_8 : decode cX1_takeWindow 8 = .ok (.aload_n 0, 1) := by decide +kernel
theorem dX1_takeWindow_9 : decode cX1_takeWindow 9 = .ok (.aload_n 1, 1) := by decide +kernel
theorem dX1_takeWindow_10 : decode cX1_takeWindow 10 = .ok (.getfield 63, 3) := by decide +kernel
theorem dX1_takeWindow_13 : decode cX1_takeWindow 13 = .ok (.putfield 66, 3) := by decide +kernel
theorem dX1_takeWindow_16 : decode cX1_takeWindow 16 = .ok (.aload_n 0, 1) := by decide +kernel
theorem dX1_takeWindow_17 : decode cX1_takeWindow 17 = .ok (.aload_n 1, 1) := by decide +kernel
theorem dX1_takeWindow_18 : decode cX1_takeWindow 18 = .ok (.getfield 141, 3) := by decide +kernel
theorem dX1_takeWindow_21 : decode cX1_takeWindow 21 = .ok (.putfield 69, 3) := by decide +kernel
theorem dX1_takeWindow_24 : decode cX1_takeWindow 24 = .ok (.return_, 1) := by decide +kernel
theorem wX1_takeWindow {x : GX} {n0 sl0 : Nat} (X : Cx x cX1_takeWindow RX1 none n0 sl0 0 0) {out : Mm} (hE : Ends x n0 sl0 none out) (hn : xn x = 2) (fu : Nat)   (a0 : Nat) (a1 : Option Nat)  (M : Mm) (h : fX1_takeWindow fu  a0 a1 M = some out) : Gw x M 0 [(0, pR (some a0)), (1, pR a1)] [] := by
  unfold fX1_takeWindow at h
  refine g_aload_n X (pc := 0) 0 rfl rfl dX1_takeWindow_0 ?_
  refine g_aload_n X (pc := 1) 1 rfl rfl dX1_takeWindow_1 ?_
  obtain ⟨v1, ev1, h⟩ := bd h
  refine g_getI X (pc := 2) fk_3_7 rfl rfl ev1 tb_176 dX1_takeWindow_2 ?_
  obtain ⟨M2, eM2, h⟩ := bd h
  refine g_putI X (pc := 5) fk_1_7 rfl rfl rfl eM2 tb_974 (Or.inl rfl) dX1_takeWindow_5 ?_
  refine g_aload_n X (pc := 8) 0 rfl rfl dX1_takeWindow_8 ?_
  refine g_aload_n X (pc := 9) 1 rfl rfl dX1_takeWindow_9 ?_
  obtain ⟨v3, ev3, h⟩ := bd h
  refine g_getI X (pc := 10) fk_3_4 rfl rfl ev3 tb_168 dX1_takeWindow_10 ?_
  obtain ⟨M4, eM4, h⟩ := bd h
  refine g_putI X (pc := 13) fk_1_18 rfl rfl rfl eM4 tb_999 (Or.inl rfl) dX1_takeWindow_13 ?_
  refine g_aload_n X (pc := 16) 0 rfl rfl dX1_takeWindow_16 ?_
  refine g_aload_n X (pc := 17) 1 rfl rfl dX1_takeWindow_17 ?_
  obtain ⟨v5, ev5, h⟩ := bd h
  refine g_getI X (pc := 18) fk_3_5 rfl rfl ev5 tb_174 dX1_takeWindow_18 ?_
  obtain ⟨M6, eM6, h⟩ := bd h
  refine g_putI X (pc := 21) fk_1_19 rfl rfl rfl eM6 tb_1000 (Or.inl rfl) dX1_takeWindow_21 ?_
  obtain rfl := Option.some.inj h
  exact g_return X hE dX1_takeWindow_24
theorem hyX1_takeWindow : yX1_takeWindow.cls ≠ "java/lang/invoke/MethodHandle" ∧ yX1_takeWindow.cls ≠ "java/lang/invoke/VarHandle" ∧ (parseMethodDescriptor yX1_takeWindow.desc).map (fun d => d.parameters.length) = some 1 := ⟨by decide +kernel, by decide +kernel, by decide +kernel⟩
theorem ctX1_takeWindow (l : Launch) (E : Nat → Nat) (D : va_G) (dA : Nat → ClassId) (lo : Nat) (H0 : Heap) (fu : Nat) (a0 : Nat) (a1 : Option Nat) (M : Mm) (out : Mm) (h : fX1_takeWindow fu a0 a1 M = some out) : Ct l E D dA lo H0 yX1_takeWindow cX1_takeWindow 2 none 0 0 [pR (some a0), pR a1] M none out := by
  refine ct_of (by decide +kernel) (Nat.le_of_ble_eq_true rfl) ?_
  intro x hl he hd ha ho hh hn hin X hE
  exact wX1_takeWindow X hE hn fu a0 a1 M h
