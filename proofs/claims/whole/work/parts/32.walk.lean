/-! ===== walks of methods, printed by a program of ours ===== -/
/-! WebHost$Tcp.copyAnswer(LWebHost$Connection;II)V -/
def fX9_copyAnswer_L42 (fu : Nat)  : Nat → Nat → Option Nat → Int32 → Int32 → Int32 → Int32 → Int32 → Mm → Option (Mm)
  | 0, _, _, _, _, _, _, _, _ => none
  | n + 1, a0, a1, a2, a3, a4, a5, a6, M =>
    if a5 ≤ a6 then (
    (gI M 1 75 a1).bind fun v1 =>
    (gI M 1 78 a1).bind fun v2 =>
    if (a3 - a5) ≤ 0 then (
    some M)
    else (
    if (((v1 + a2) + a5) - v2) < 0 then (
    some M)
    else (
    (gR M 9 578 (some a0)).bind fun v3 =>
    (gR M 8 512 v3).bind fun v4 =>
    (aL M 100 v4).bind fun v5 =>
    if v5 < ((((v1 + a2) + a5) - v2) + (a3 - a5)) then (
    some M)
    else (
    (gR M 9 578 (some a0)).bind fun v6 =>
    (gR M 8 512 v6).bind fun v7 =>
    (gR M 9 577 (some a0)).bind fun v8 =>
    (gR M 4 256 v8).bind fun v9 =>
    (cpB M v7 (((v1 + a2) + a5) - v2) v9 (a4 + a5) (a3 - a5)).bind fun M10 =>
    some M10))))
    else (
    (gR M 9 577 (some a0)).bind fun v11 =>
    (gR M 4 256 v11).bind fun v12 =>
    (gR M 1 79 a1).bind fun v13 =>
    b2 (fX11_one fu  v13 (a2 + a6) M) fun v15 M14 =>
    (pA M14 100 v12 (a4 + a6) (Int8.toInt32 (Int32.toInt8 (Int8.toInt32 (Int32.toInt8 v15))))).bind fun M16 =>
    fX9_copyAnswer_L42 fu  n a0 a1 a2 a3 a4 a5 (a6 + (1 : Int32)) M16)
def fX9_copyAnswer (fu : Nat)  (a0 : Nat) (a1 : Option Nat) (a2 : Int32) (a3 : Int32)  (M : Mm) : Option (Mm) :=
    if a2 < 0 then (
    some M)
    else (
    if a3 < 0 then (
    some M)
    else (
    if a3 ≤ ((1514 : Int32) - (54 : Int32)) then (
    (gI M 1 78 a1).bind fun v1 =>
    fX9_copyAnswer_L42 fu  fu a0 a1 a2 a3 (54 : Int32) (jmax (0 : Int32) (jmin a3 (v1 - a2))) (0 : Int32) M)
    else (
    some M)))
theorem dX9_copyAnswer_0 : decode cX9_copyAnswer 0 = .ok (.bipush 54, 2) := by decide +kernel
theorem dX9_copyAnswer_2 : decode cX9_copyAnswer 2 = .ok (.istore 4, 2) := by decide +kernel
theorem dX9_copyAnswer_4 : decode cX9_copyAnswer 4 = .ok (.iload_n 2, 1) := by decide +kernel
theorem dX9_copyAnswer_5 : decode cX9_copyAnswer 5 = .ok (.ifCond .lt 17, 3) := by decide +kernel
theorem dX9_copyAnswer_8 : decode cX9_copyAnswer 8 = .ok (.iload_n 3, 1) := by decide +kernel
theorem dX9_copyAnswer_9 : decode cX9_copyAnswer 9 = .ok (.ifCond .lt 13, 3) := by decide +kernel
theorem dX9_copyAnswer_12 : decode cX9_copyAnswer 12 = .ok (.iload_n 3, 1) := by decide +kernel
theorem dX9_copyAnswer_13 : decode cX9_copyAnswer 13 = .ok (.sipush 1514, 3) := by decide +kernel
theorem dX9_copyAnswer_16 : decode cX9_copyAnswer 16 = .ok (.iload 4, 2) := by decide +kernel
theorem dX9_copyAnswer_18 : decode cX9_copyAnswer 18 = .ok (.isub, 1) := by decide +kernel
theorem dX9_copyAnswer_19 : decode cX9_copyAnswer 19 = .ok (.if_icmp .le 4, 3) := by decide +kernel
theorem dX9_copyAnswer_22 : decode cX9_copyAnswer 22 = .ok (.return_, 1) := by decide +kernel
theorem dX9_copyAnswer_23 : decode cX9_copyAnswer 23 = .ok (.iconst 0, 1) := by decide +kernel
theorem dX9_copyAnswer_24 : decode cX9_copyAnswer 24 = .ok (.iload_n 3, 1) := by decide +kernel
theorem dX9_copyAnswer_25 : decode cX9_copyAnswer 25 = .ok (.aload_n 1, 1) := by decide +kernel
theorem dX9_copyAnswer_26 : decode cX9_copyAnswer 26 = .ok (.getfield 278, 3) := by decide +kernel
theorem dX9_copyAnswer_29 : decode cX9_copyAnswer 29 = .ok (.iload_n 2, 1) := by decide +kernel
theorem dX9_copyAnswer_30 : decode cX9_copyAnswer 30 = .ok (.isub, 1) := by decide +kernel
theorem dX9_copyAnswer_31 : decode cX9_copyAnswer 31 = .ok (.invokestatic 62, 3) := by decide +kernel
theorem dX9_copyAnswer_34 : decode cX9_copyAnswer 34 = .ok (.invokestatic 281, 3) := by decide +kernel
theorem dX9_copyAnswer_37 : decode cX9_copyAnswer 37 = .ok (.istore 5, 2) := by decide +kernel
theorem dX9_copyAnswer_39 : decode cX9_copyAnswer 39 = .ok (.iconst 0, 1) := by decide +kernel
theorem dX9_copyAnswer_40 : decode cX9_copyAnswer 40 = .ok (.istore 6, 2) := by decide +kernel
theorem dX9_copyAnswer_42 : decode cX9_copyAnswer 42 = .ok (.iload 6, 2) := by decide +kernel
theorem dX9_copyAnswer_44 : decode cX9_copyAnswer 44 = .ok (.iload 5, 2) := by decide +kernel
theorem dX9_copyAnswer_46 : decode cX9_copyAnswer 46 = .ok (.if_icmp .ge 34, 3) := by decide +kernel
theorem dX9_copyAnswer_49 : decode cX9_copyAnswer 49 = .ok (.aload_n 0, 1) := by decide +kernel
theorem dX9_copyAnswer_50 : decode cX9_copyAnswer 50 = .ok (.getfield 15, 3) := by decide +kernel
theorem dX9_copyAnswer_53 : decode cX9_copyAnswer 53 = .ok (.getfield 283, 3) := by decide +kernel
theorem dX9_copyAnswer_56 : decode cX9_copyAnswer 56 = .ok (.iload 4, 2) := by decide +kernel
theorem dX9_copyAnswer_58 : decode cX9_copyAnswer 58 = .ok (.iload 6, 2) := by decide +kernel
theorem dX9_copyAnswer_60 : decode cX9_copyAnswer 60 = .ok (.iadd, 1) := by decide +kernel
theorem dX9_copyAnswer_61 : decode cX9_copyAnswer 61 = .ok (.aload_n 1, 1) := by decide +kernel
theorem dX9_copyAnswer_62 : decode cX9_copyAnswer 62 = .ok (.getfield 287, 3) := by decide +kernel
theorem dX9_copyAnswer_65 : decode cX9_copyAnswer 65 = .ok (.iload_n 2, 1) := by decide +kernel
theorem dX9_copyAnswer_66 : decode cX9_copyAnswer 66 = .ok (.iload 6, 2) := by decide +kernel
theorem dX9_copyAnswer_68 : decode cX9_copyAnswer 68 = .ok (.iadd, 1) := by decide +kernel
theorem dX9_copyAnswer_69 : decode cX9_copyAnswer 69 = .ok (.invokestatic 290, 3) := by decide +kernel
theorem dX9_copyAnswer_72 : decode cX9_copyAnswer 72 = .ok (.i2b, 1) := by decide +kernel
theorem dX9_copyAnswer_73 : decode cX9_copyAnswer 73 = .ok (.bastore, 1) := by decide +kernel
theorem dX9_copyAnswer_74 : decode cX9_copyAnswer 74 = .ok (.iinc 6 1, 3) := by decide +kernel
theorem dX9_copyAnswer_77 : decode cX9_copyAnswer 77 = .ok (.goto (-35), 3) := by decide +kernel
theorem dX9_copyAnswer_80 : decode cX9_copyAnswer 80 = .ok (.aload_n 1, 1) := by decide +kernel
theorem dX9_copyAnswer_81 : decode cX9_copyAnswer 81 = .ok (.getfield 294, 3) := by decide +kernel
theorem dX9_copyAnswer_84 : decode cX9_copyAnswer 84 = .ok (.iload_n 2, 1) := by decide +kernel
theorem dX9_copyAnswer_85 : decode cX9_copyAnswer 85 = .ok (.iadd, 1) := by decide +kernel
theorem dX9_copyAnswer_86 : decode cX9_copyAnswer 86 = .ok (.iload 5, 2) := by decide +kernel
theorem dX9_copyAnswer_88 : decode cX9_copyAnswer 88 = .ok (.iadd, 1) := by decide +kernel
theorem dX9_copyAnswer_89 : decode cX9_copyAnswer 89 = .ok (.aload_n 1, 1) := by decide +kernel
theorem dX9_copyAnswer_90 : decode cX9_copyAnswer 90 = .ok (.getfield 278, 3) := by decide +kernel
theorem dX9_copyAnswer_93 : decode cX9_copyAnswer 93 = .ok (.isub, 1) := by decide +kernel
theorem dX9_copyAnswer_94 : decode cX9_copyAnswer 94 = .ok (.istore 6, 2) := by decide +kernel
theorem dX9_copyAnswer_96 : decode cX9_copyAnswer 96 = .ok (.iload_n 3, 1) := by decide +kernel
theorem dX9_copyAnswer_97 : decode cX9_copyAnswer 97 = .ok (.iload 5, 2) := by decide +kernel
theorem dX9_copyAnswer_99 : decode cX9_copyAnswer 99 = .ok (.isub, 1) := by decide +kernel
theorem dX9_copyAnswer_100 : decode cX9_copyAnswer 100 = .ok (.istore 7, 2) := by decide +kernel
theorem dX9_copyAnswer_102 : decode cX9_copyAnswer 102 = .ok (.iload 7, 2) := by decide +kernel
theorem dX9_copyAnswer_104 : decode cX9_copyAnswer 104 = .ok (.ifCond .le 50, 3) := by decide +kernel
theorem dX9_copyAnswer_107 : decode cX9_copyAnswer 107 = .ok (.iload 6, 2) := by decide +kernel
theorem dX9_copyAnswer_109 : decode cX9_copyAnswer 109 = .ok (.ifCond .lt 45, 3) := by decide +kernel
theorem dX9_copyAnswer_112 : decode cX9_copyAnswer 112 = .ok (.iload 6, 2) := by decide +kernel
theorem dX9_copyAnswer_114 : decode cX9_copyAnswer 114 = .ok (.iload 7, 2) := by decide +kernel
theorem dX9_copyAnswer_116 : decode cX9_copyAnswer 116 = .ok (.iadd, 1) := by decide +kernel
theorem dX9_copyAnswer_117 : decode cX9_copyAnswer 117 = .ok (.aload_n 0, 1) := by decide +kernel
theorem dX9_copyAnswer_118 : decode cX9_copyAnswer 118 = .ok (.getfield 19, 3) := by decide +kernel
theorem dX9_copyAnswer_121 : decode cX9_copyAnswer 121 = .ok (.getfield 297, 3) := by decide +kernel
theorem dX9_copyAnswer_124 : decode cX9_copyAnswer 124 = .ok (.arraylength, 1) := by decide +kernel
theorem dX9_copyAnswer_125 : decode cX9_copyAnswer 125 = .ok (.if_icmp .gt 29, 3) := by decide +kernel
theorem dX9_copyAnswer_128 : decode cX9_copyAnswer 128 = .ok (.aload_n 0, 1) := by decide +kernel
theorem dX9_copyAnswer_129 : decode cX9_copyAnswer 129 = .ok (.getfield 19, 3) := by decide +kernel
theorem dX9_copyAnswer_132 : decode cX9_copyAnswer 132 = .ok (.getfield 297, 3) := by decide +kernel
theorem dX9_copyAnswer_135 : decode cX9_copyAnswer 135 = .ok (.iload 6, 2) := by decide +kernel
theorem dX9_copyAnswer_137 : decode cX9_copyAnswer 137 = .ok (.aload_n 0, 1) := by decide +kernel
theorem dX9_copyAnswer_138 : decode cX9_copyAnswer 138 = .ok (.getfield 15, 3) := by decide +kernel
theorem dX9_copyAnswer_141 : decode cX9_copyAnswer 141 = .ok (.getfield 283, 3) := by decide +kernel
theorem dX9_copyAnswer_144 : decode cX9_copyAnswer 144 = .ok (.iload 4, 2) := by decide +kernel
theorem dX9_copyAnswer_146 : decode cX9_copyAnswer 146 = .ok (.iload 5, 2) := by decide +kernel
theorem dX9_copyAnswer_148 : decode cX9_copyAnswer 148 = .ok (.iadd, 1) := by decide +kernel
theorem dX9_copyAnswer_149 : decode cX9_copyAnswer 149 = .ok (.iload 7, 2) := by decide +kernel
theorem dX9_copyAnswer_151 : decode cX9_copyAnswer 151 = .ok (.invokestatic 302, 3) := by decide +kernel
theorem dX9_copyAnswer_154 : decode cX9_copyAnswer 154 = .ok (.return_, 1) := by decide +kernel
theorem wX9_copyAnswer_L42 {x : GX} {n0 sl0 : Nat} (X : Cx x cX9_copyAnswer RX9 none n0 sl0 1 40) {out : Mm} (hE : Ends x n0 sl0 none out) (hn : xn x = 8) (fu : Nat)   : ∀ (n : Nat) (a0 : Nat) (a1 : Option Nat) (a2 : Int32) (a3 : Int32) (a4 : Int32) (a5 : Int32) (a6 : Int32)  (M : Mm), fX9_copyAnswer_L42 fu  n a0 a1 a2 a3 a4 a5 a6 M = some out → Gw x M 42 [(0, pR (some a0)), (1, pR a1), (2, pI a2), (3, pI a3), (4, pI a4), (5, pI a5), (6, pI a6)] [] := by
  intro n
  induction n with
  | zero =>
    intro a0 a1 a2 a3 a4 a5 a6 M h
    have h : (none : Option (Mm)) = some out := h
    cases h
  | succ n ih =>
    intro a0 a1 a2 a3 a4 a5 a6 M h
    rw [fX9_copyAnswer_L42] at h
    refine g_iload X (pc := 42) 6 rfl dX9_copyAnswer_42 ?_
    refine g_iload X (pc := 44) 5 rfl dX9_copyAnswer_44 ?_
    refine g_icmp_ge X (pc := 46) (tgt := 80) dX9_copyAnswer_46 (by decide) (fun hc => ?_) (fun hc => ?_)
    · have h := (if_pos hc).symm.trans h
      refine g_aload_n X (pc := 80) 1 rfl rfl dX9_copyAnswer_80 ?_
      obtain ⟨v1, ev1, h⟩ := bd h
      refine g_getI X (pc := 81) fk_1_11 rfl rfl ev1 tb_983 dX9_copyAnswer_81 ?_
      refine g_iload_n X (pc := 84) 2 rfl rfl dX9_copyAnswer_84 ?_
      refine g_iadd X (pc := 85) dX9_copyAnswer_85 ?_
      refine g_iload X (pc := 86) 5 rfl dX9_copyAnswer_86 ?_
      refine g_iadd X (pc := 88) dX9_copyAnswer_88 ?_
      refine g_aload_n X (pc := 89) 1 rfl rfl dX9_copyAnswer_89 ?_
      obtain ⟨v2, ev2, h⟩ := bd h
      refine g_getI X (pc := 90) fk_1_14 rfl rfl ev2 tb_990 dX9_copyAnswer_90 ?_
      refine g_isub X (pc := 93) dX9_copyAnswer_93 ?_
      refine g_istore X (pc := 94) [(6, pI (((v1 + a2) + a5) - v2)), (0, pR (some a0)), (1, pR a1), (2, pI a2), (3, pI a3), (4, pI a4), (5, pI a5)] (lt_n hn (by decide)) rfl dX9_copyAnswer_94 ?_
      refine g_iload_n X (pc := 96) 4 rfl rfl dX9_copyAnswer_96 ?_
      refine g_iload X (pc := 97) 6 rfl dX9_copyAnswer_97 ?_
      refine g_isub X (pc := 99) dX9_copyAnswer_99 ?_
      refine g_istore X (pc := 100) [(7, pI (a3 - a5)), (6, pI (((v1 + a2) + a5) - v2)), (0, pR (some a0)), (1, pR a1), (2, pI a2), (3, pI a3), (4, pI a4), (5, pI a5)] (lt_n hn (by decide)) rfl dX9_copyAnswer_100 ?_
      refine g_iload X (pc := 102) 0 rfl dX9_copyAnswer_102 ?_
      refine g_if_le X (pc := 104) (tgt := 154) dX9_copyAnswer_104 (by decide) (fun hc => ?_) (fun hc => ?_)
      · have h := (if_pos hc).symm.trans h
        obtain rfl := Option.some.inj h
        exact g_return X hE dX9_copyAnswer_154
      · have h := (if_neg hc).symm.trans h
        refine g_iload X (pc := 107) 1 rfl dX9_copyAnswer_107 ?_
        refine g_if_lt X (pc := 109) (tgt := 154) dX9_copyAnswer_109 (by decide) (fun hc => ?_) (fun hc => ?_)
        · have h := (if_pos hc).symm.trans h
          obtain rfl := Option.some.inj h
          exact g_return X hE dX9_copyAnswer_154
        · have h := (if_neg hc).symm.trans h
          refine g_iload X (pc := 112) 1 rfl dX9_copyAnswer_112 ?_
          refine g_iload X (pc := 114) 0 rfl dX9_copyAnswer_114 ?_
          refine g_iadd X (pc := 116) dX9_copyAnswer_116 ?_
          refine g_aload_n X (pc := 117) 2 rfl rfl dX9_copyAnswer_117 ?_
          obtain ⟨v3, ev3, h⟩ := bd h
          refine g_getR X (pc := 118) fk_9_2 rfl rfl ev3 tb_236 dX9_copyAnswer_118 ?_
          obtain ⟨v4, ev4, h⟩ := bd h
          refine g_getR X (pc := 121) fk_8_0 rfl rfl ev4 tb_42 dX9_copyAnswer_121 ?_
          obtain ⟨v5, ev5, h⟩ := bd h
          refine g_alen X (pc := 124) (k := 0) rfl (by decide) ev5 dX9_copyAnswer_124 ?_
          refine g_icmp_gt X (pc := 125) (tgt := 154) dX9_copyAnswer_125 (by decide) (fun hc => ?_) (fun hc => ?_)
          · have h := (if_pos hc).symm.trans h
            obtain rfl := Option.some.inj h
            exact g_return X hE dX9_copyAnswer_154
          · have h := (if_neg hc).symm.trans h
            refine g_aload_n X (pc := 128) 2 rfl rfl dX9_copyAnswer_128 ?_
            obtain ⟨v6, ev6, h⟩ := bd h
            refine g_getR X (pc := 129) fk_9_2 rfl rfl ev6 tb_236 dX9_copyAnswer_129 ?_
            obtain ⟨v7, ev7, h⟩ := bd h
            refine g_getR X (pc := 132) fk_8_0 rfl rfl ev7 tb_42 dX9_copyAnswer_132 ?_
            refine g_iload X (pc := 135) 1 rfl dX9_copyAnswer_135 ?_
            refine g_aload_n X (pc := 137) 2 rfl rfl dX9_copyAnswer_137 ?_
            obtain ⟨v8, ev8, h⟩ := bd h
            refine g_getR X (pc := 138) fk_9_1 rfl rfl ev8 tb_235 dX9_copyAnswer_138 ?_
            obtain ⟨v9, ev9, h⟩ := bd h
            refine g_getR X (pc := 141) fk_4_0 rfl rfl ev9 tb_99 dX9_copyAnswer_141 ?_
            refine g_iload X (pc := 144) 6 rfl dX9_copyAnswer_144 ?_
            refine g_iload X (pc := 146) 7 rfl dX9_copyAnswer_146 ?_
            refine g_iadd X (pc := 148) dX9_copyAnswer_148 ?_
            refine g_iload X (pc := 149) 0 rfl dX9_copyAnswer_149 ?_
            obtain ⟨M10, eM10, h⟩ := bd h
            refine g_copyB X (pc := 151) eM10 tb_692 tb_363 tb_362 tb_15 ⟨by decide, Nat.le_of_ble_eq_true rfl⟩ dX9_copyAnswer_151 ?_
            obtain rfl := Option.some.inj h
            exact g_return X hE dX9_copyAnswer_154
    · have h := (if_neg hc).symm.trans h
      refine g_aload_n X (pc := 49) 0 rfl rfl dX9_copyAnswer_49 ?_
      obtain ⟨v11, ev11, h⟩ := bd h
      refine g_getR X (pc := 50) fk_9_1 rfl rfl ev11 tb_235 dX9_copyAnswer_50 ?_
      obtain ⟨v12, ev12, h⟩ := bd h
      refine g_getR X (pc := 53) fk_4_0 rfl rfl ev12 tb_99 dX9_copyAnswer_53 ?_
      refine g_iload X (pc := 56) 4 rfl dX9_copyAnswer_56 ?_
      refine g_iload X (pc := 58) 6 rfl dX9_copyAnswer_58 ?_
      refine g_iadd X (pc := 60) dX9_copyAnswer_60 ?_
      refine g_aload_n X (pc := 61) 1 rfl rfl dX9_copyAnswer_61 ?_
      obtain ⟨v13, ev13, h⟩ := bd h
      refine g_getR X (pc := 62) fk_1_15 rfl rfl ev13 tb_992 dX9_copyAnswer_62 ?_
      refine g_iload_n X (pc := 65) 2 rfl rfl dX9_copyAnswer_65 ?_
      refine g_iload X (pc := 66) 6 rfl dX9_copyAnswer_66 ?_
      refine g_iadd X (pc := 68) dX9_copyAnswer_68 ?_
      obtain ⟨v15, M14, eM14, h⟩ := b2d h
      refine g_callSN X (pc := 69) (M' := M14) (ro := some (pI v15)) (as := [pR v13, pI (a2 + a6)]) (as' := [pI (a2 + a6), pR v13]) (st := [pI (a4 + a6), pR v12]) (ctX11_one _ _ _ _ _ _ fu  v13 (a2 + a6) M _ eM14) tb_415 (List.mem_of_getElem? (i := 10) rfl) tb_414 tb_1 hyX11_one rfl rfl ⟨by decide, by decide⟩ (Nat.le_of_ble_eq_true rfl) dX9_copyAnswer_69 ?_
      refine g_i2b X (pc := 72) dX9_copyAnswer_72 ?_
      obtain ⟨M16, eM16, h⟩ := bd h
      refine g_bastore X (pc := 73) eM16 dX9_copyAnswer_73 ?_
      refine g_iinc X (pc := 74) 6 [(6, pI (a6 + (1 : Int32))), (0, pR (some a0)), (1, pR a1), (2, pI a2), (3, pI a3), (4, pI a4), (5, pI a5)] rfl (iinc_e (by decide)) (lt_n hn (by decide)) rfl dX9_copyAnswer_74 ?_
      refine g_goto X (pc := 77) (tgt := 42) dX9_copyAnswer_77 (by decide) ?_
      refine g_sub [1, 2, 3, 4, 5, 6, 0] [(0, pR (some a0)), (1, pR a1), (2, pI a2), (3, pI a3), (4, pI a4), (5, pI a5), (6, pI (a6 + (1 : Int32)))] rfl ?_
      exact ih a0 a1 a2 a3 a4 a5 (a6 + (1 : Int32)) M16 h
theorem wX9_copyAnswer {x : GX} {n0 sl0 : Nat} (X : Cx x cX9_copyAnswer RX9 none n0 sl0 1 40) {out : Mm} (hE : Ends x n0 sl0 none out) (hn : xn x = 8) (fu : Nat)   (a0 : Nat) (a1 : Option Nat) (a2 : Int32) (a3 : Int32)  (M : Mm) (h : fX9_copyAnswer fu  a0 a1 a2 a3 M = some out) : Gw x M 0 [(0, pR (some a0)), (1, pR a1), (2, pI a2), (3, pI a3)] [] := by
  unfold fX9_copyAnswer at h
  refine g_bipush X (pc := 0) (v := 54) dX9_copyAnswer_0 (by decide) ?_
  refine g_istore X (pc := 2) [(4, pI (54 : Int32)), (0, pR (some a0)), (1, pR a1), (2, pI a2), (3, pI a3)] (lt_n hn (by decide)) rfl dX9_copyAnswer_2 ?_
  refine g_iload_n X (pc := 4) 3 rfl rfl dX9_copyAnswer_4 ?_
  refine g_if_lt X (pc := 5) (tgt := 22) dX9_copyAnswer_5 (by decide) (fun hc => ?_) (fun hc => ?_)
  · have h := (if_pos hc).symm.trans h
    obtain rfl := Option.some.inj h
    exact g_return X hE dX9_copyAnswer_22
  · have h := (if_neg hc).symm.trans h
    refine g_iload_n X (pc := 8) 4 rfl rfl dX9_copyAnswer_8 ?_
    refine g_if_lt X (pc := 9) (tgt := 22) dX9_copyAnswer_9 (by decide) (fun hc => ?_) (fun hc => ?_)
    · have h := (if_pos hc).symm.trans h
      obtain rfl := Option.some.inj h
      exact g_return X hE dX9_copyAnswer_22
    · have h := (if_neg hc).symm.trans h
      refine g_iload_n X (pc := 12) 4 rfl rfl dX9_copyAnswer_12 ?_
      refine g_sipush X (pc := 13) (v := 1514) dX9_copyAnswer_13 (by decide) ?_
      refine g_iload X (pc := 16) 0 rfl dX9_copyAnswer_16 ?_
      refine g_isub X (pc := 18) dX9_copyAnswer_18 ?_
      refine g_icmp_le X (pc := 19) (tgt := 23) dX9_copyAnswer_19 (by decide) (fun hc => ?_) (fun hc => ?_)
      · have h := (if_pos hc).symm.trans h
        refine g_iconst X (pc := 23) (v := 0) dX9_copyAnswer_23 (by decide) ?_
        refine g_iload_n X (pc := 24) 4 rfl rfl dX9_copyAnswer_24 ?_
        refine g_aload_n X (pc := 25) 2 rfl rfl dX9_copyAnswer_25 ?_
        obtain ⟨v1, ev1, h⟩ := bd h
        refine g_getI X (pc := 26) fk_1_14 rfl rfl ev1 tb_990 dX9_copyAnswer_26 ?_
        refine g_iload_n X (pc := 29) 3 rfl rfl dX9_copyAnswer_29 ?_
        refine g_isub X (pc := 30) dX9_copyAnswer_30 ?_
        refine g_mmin X (pc := 31) tb_508 tb_348 tb_13 tb_349 ⟨by decide, Nat.le_of_ble_eq_true rfl⟩ dX9_copyAnswer_31 ?_
        refine g_mmax X (pc := 34) tb_690 tb_405 tb_13 tb_406 ⟨by decide, Nat.le_of_ble_eq_true rfl⟩ dX9_copyAnswer_34 ?_
        refine g_istore X (pc := 37) [(5, pI (jmax (0 : Int32) (jmin a3 (v1 - a2)))), (4, pI (54 : Int32)), (0, pR (some a0)), (1, pR a1), (2, pI a2), (3, pI a3)] (lt_n hn (by decide)) rfl dX9_copyAnswer_37 ?_
        refine g_iconst X (pc := 39) (v := 0) dX9_copyAnswer_39 (by decide) ?_
        refine g_istore X (pc := 40) [(6, pI (0 : Int32)), (5, pI (jmax (0 : Int32) (jmin a3 (v1 - a2)))), (4, pI (54 : Int32)), (0, pR (some a0)), (1, pR a1), (2, pI a2), (3, pI a3)] (lt_n hn (by decide)) rfl dX9_copyAnswer_40 ?_
        refine g_sub [3, 4, 5, 6, 2, 1, 0] [(0, pR (some a0)), (1, pR a1), (2, pI a2), (3, pI a3), (4, pI (54 : Int32)), (5, pI (jmax (0 : Int32) (jmin a3 (v1 - a2)))), (6, pI (0 : Int32))] rfl ?_
        exact wX9_copyAnswer_L42 X hE hn fu   fu a0 a1 a2 a3 (54 : Int32) (jmax (0 : Int32) (jmin a3 (v1 - a2))) (0 : Int32) M h
      · have h := (if_neg hc).symm.trans h
        obtain rfl := Option.some.inj h
        exact g_return X hE dX9_copyAnswer_22
theorem hyX9_copyAnswer : yX9_copyAnswer.cls ≠ "java/lang/invoke/MethodHandle" ∧ yX9_copyAnswer.cls ≠ "java/lang/invoke/VarHandle" ∧ (parseMethodDescriptor yX9_copyAnswer.desc).map (fun d => d.parameters.length) = some 3 := ⟨by decide +kernel, by decide +kernel, by decide +kernel⟩
theorem ctX9_copyAnswer (l : Launch) (E : Nat → Nat) (D : va_G) (dA : Nat → ClassId) (lo : Nat) (H0 : Heap) (fu : Nat) (a0 : Nat) (a1 : Option Nat) (a2 : Int32) (a3 : Int32) (M : Mm) (out : Mm) (h : fX9_copyAnswer fu a0 a1 a2 a3 M = some out) : Ct l E D dA lo H0 yX9_copyAnswer cX9_copyAnswer 8 none 1 40 [pR (some a0), pR a1, pI a2, pI a3] M none out := by
  refine ct_of (by decide +kernel) (Nat.le_of_ble_eq_true rfl) ?_
  intro x hl he hd ha ho hh hn hin X hE
  exact wX9_copyAnswer X hE hn fu a0 a1 a2 a3 M h
/-! WebHost$Tcp.sendPart(LWebHost$Connection;II)V -/
def fX9_sendPart_L147 (fu : Nat)  (a0 : Nat) (a1 : Option Nat) (a2 : Int32) (a4 : Int32) (a5 : Int32)  (M : Mm) : Option (Mm) :=
    (gI M 1 77 a1).bind fun v1 =>
    (rc M 9 (some a0)).bind fun q2 =>
    (fX9_copyAnswer fu q2 a1 (a2 - v1) a4 M).bind fun M3 =>
    (gR M3 9 577 (some a0)).bind fun v4 =>
    (gI M3 1 65 a1).bind fun v5 =>
    (rc M3 9 (some a0)).bind fun q6 =>
    b2 (fX9_fill fu q6 a1 a2 a5 a4 M3) fun v8 M7 =>
    (rc M7 4 v4).bind fun q9 =>
    (fX4_send fu q9 v5 (6 : Int32) v8 M7).bind fun M10 =>
    some M10
def fX9_sendPart_L113 (fu : Nat)  (a0 : Nat) (a1 : Option Nat) (a2 : Int32) (a4 : Int32) (a5 : Int32)  (M : Mm) : Option (Mm) :=
    (gR M 1 81 a1).bind fun v1 =>
    (gI M 5 324 v1).bind fun v2 =>
    if v2 = (2147483647 : Int32) then (
    (gR M 1 81 a1).bind fun v3 =>
    (gR M 9 576 (some a0)).bind fun v4 =>
    (gI M 10 641 v4).bind fun v5 =>
    (gR M 1 81 a1).bind fun v6 =>
    (gI M 5 323 v6).bind fun v7 =>
    (pF M 5 324 v3 (v5 + v7)).bind fun M8 =>
    fX9_sendPart_L147 fu  a0 a1 a2 a4 a5 M8)
    else (
    fX9_sendPart_L147 fu  a0 a1 a2 a4 a5 M)
def fX9_sendPart_L65 (fu : Nat)  (a0 : Nat) (a1 : Option Nat) (a2 : Int32) (a4 : Int32) (a5 : Int32)  (M : Mm) : Option (Mm) :=
    (gI M 1 70 a1).bind fun v1 =>
    if 0 ≤ (a2 - v1) then (
    (gR M 1 81 a1).bind fun v2 =>
    (gR M 9 576 (some a0)).bind fun v3 =>
    (gI M 10 641 v3).bind fun v4 =>
    (rc M 5 v2).bind fun q5 =>
    (fX5_startTiming fu q5 a2 v4 M).bind fun M6 =>
    fX9_sendPart_L113 fu  a0 a1 a2 a4 a5 M6)
    else (
    (gR M 9 576 (some a0)).bind fun v7 =>
    (gR M 10 640 v7).bind fun v8 =>
    (gA M 101 v8 (3 : Int32)).bind fun v9 =>
    (pA M 101 v8 (3 : Int32) (v9 + (1 : Int32))).bind fun M10 =>
    (gR M10 1 81 a1).bind fun v11 =>
    (pZ M10 5 328 v11 (0 : Int32)).bind fun M12 =>
    fX9_sendPart_L113 fu  a0 a1 a2 a4 a5 M12)
def fX9_sendPart_L49 (fu : Nat)  (a0 : Nat) (a1 : Option Nat) (a2 : Int32) (a3 : Int32) (a4 : Int32) (a5 : Int32)  (M : Mm) : Option (Mm) :=
    if a3 ≤ a4 then (
    fX9_sendPart_L65 fu  a0 a1 a2 a4 a5 M)
    else (
    (rc M 1 a1).bind fun q1 =>
    (fX1_finGoes fu q1  M).bind fun M2 =>
    fX9_sendPart_L65 fu  a0 a1 a2 a4 (a5 ||| (1 : Int32)) M2)
def fX9_sendPart (fu : Nat)  (a0 : Nat) (a1 : Option Nat) (a2 : Int32) (a3 : Int32)  (M : Mm) : Option (Mm) :=
    (rc M 1 a1).bind fun q1 =>
    b2 (fX1_dataEnd fu q1  M) fun v3 M2 =>
    if a3 ≤ 0 then (
    some M2)
    else (
    if 0 ≤ (jmin a3 (v3 - a2)) then (
    if (jmin a3 (v3 - a2)) ≤ 0 then (
    fX9_sendPart_L49 fu  a0 a1 a2 a3 (jmin a3 (v3 - a2)) (16 : Int32) M2)
    else (
    (rc M2 1 a1).bind fun q4 =>
    b2 (fX1_dataEnd fu q4  M2) fun v6 M5 =>
    if (a2 + (jmin a3 (v3 - a2))) = v6 then (
    fX9_sendPart_L49 fu  a0 a1 a2 a3 (jmin a3 (v3 - a2)) ((16 : Int32) ||| (8 : Int32)) M5)
    else (
    fX9_sendPart_L49 fu  a0 a1 a2 a3 (jmin a3 (v3 - a2)) (16 : Int32) M5)))
    else (
    some M2))
theorem dX9_sendPart_0 : decode cX9_sendPart 0 = .ok (.iload_n 3, 1) := by decide +kernel
theorem dX9_sendPart_1 : decode cX9_sendPart 1 = .ok (.aload_n 1, 1) := by decide +kernel
theorem dX9_sendPart_2 : decode cX9_sendPart 2 = .ok (.invokevirtual 221, 3) := by decide +kernel
theorem dX9_sendPart_5 : decode cX9_sendPart 5 = .ok (.iload_n 2, 1) := by decide +kernel
theorem dX9_sendPart_6 : decode cX9_sendPart 6 = .ok (.isub, 1) := by decide +kernel
theorem dX9_sendPart_7 : decode cX9_sendPart 7 = .ok (.invokestatic 62, 3) := by decide +kernel
theorem dX9_sendPart_10 : decode cX9_sendPart 10 = .ok (.istore 4, 2) := by decide +kernel
theorem dX9_sendPart_12 : decode cX9_sendPart 12 = .ok (.iload_n 3, 1) := by decide +kernel
theorem dX9_sendPart_13 : decode cX9_sendPart 13 = .ok (.ifCond .le 8, 3) := by decide +kernel
theorem dX9_sendPart_16 : decode cX9_sendPart 16 = .ok (.iload 4, 2) := by decide +kernel
theorem dX9_sendPart_18 : decode cX9_sendPart 18 = .ok (.ifCond .ge 4, 3) := by decide +kernel
theorem dX9_sendPart_21 : decode cX9_sendPart 21 = .ok (.return_, 1) := by decide +kernel
theorem dX9_sendPart_22 : decode cX9_sendPart 22 = .ok (.bipush 16, 2) := by decide +kernel
theorem dX9_sendPart_24 : decode cX9_sendPart 24 = .ok (.istore 5, 2) := by decide +kernel
theorem dX9_sendPart_26 : decode cX9_sendPart 26 = .ok (.iload 4, 2) := by decide +kernel
theorem dX9_sendPart_28 : decode cX9_sendPart 28 = .ok (.ifCond .le 21, 3) := by decide +kernel
theorem dX9_sendPart_31 : decode cX9_sendPart 31 = .ok (.iload_n 2, 1) := by decide +kernel
theorem dX9_sendPart_32 : decode cX9_sendPart 32 = .ok (.iload 4, 2) := by decide +kernel
theorem dX9_sendPart_34 : decode cX9_sendPart 34 = .ok (.iadd, 1) := by decide +kernel
theorem dX9_sendPart_35 : decode cX9_sendPart 35 = .ok (.aload_n 1, 1) := by decide +kernel
theorem dX9_sendPart_36 : decode cX9_sendPart 36 = .ok (.invokevirtual 221, 3) := by decide +kernel
theorem dX9_sendPart_39 : decode cX9_sendPart 39 = .ok (.if_icmp .ne 10, 3) := by decide +kernel
theorem dX9_sendPart_42 : decode cX9_sendPart 42 = .ok (.iload 5, 2) := by decide +kernel
theorem dX9_sendPart_44 : decode cX9_sendPart 44 = .ok (.bipush 8, 2) := by decide +kernel
theorem dX9_sendPart_46 : decode cX9_sendPart 46 = .ok (.ior, 1) := by decide +kernel
theorem dX9_sendPart_47 : decode cX9_sendPart 47 = .ok (.istore 5, 2) := by decide +kernel
theorem dX9_sendPart_49 : decode cX9_sendPart 49 = .ok (.iload_n 3, 1) := by decide +kernel
theorem dX9_sendPart_50 : decode cX9_sendPart 50 = .ok (.iload 4, 2) := by decide +kernel
theorem dX9_sendPart_52 : decode cX9_sendPart 52 = .ok (.if_icmp .le 13, 3) := by decide +kernel
theorem dX9_sendPart_55 : decode cX9_sendPart 55 = .ok (.iload 5, 2) := by decide +kernel
theorem dX9_sendPart_57 : decode cX9_sendPart 57 = .ok (.iconst 1, 1) := by decide +kernel
theorem dX9_sendPart_58 : decode cX9_sendPart 58 = .ok (.ior, 1) := by decide +kernel
theorem dX9_sendPart_59 : decode cX9_sendPart 59 = .ok (.istore 5, 2) := by decide +kernel
theorem dX9_sendPart_61 : decode cX9_sendPart 61 = .ok (.aload_n 1, 1) := by decide +kernel
theorem dX9_sendPart_62 : decode cX9_sendPart 62 = .ok (.invokevirtual 259, 3) := by decide +kernel
theorem dX9_sendPart_65 : decode cX9_sendPart 65 = .ok (.iload_n 2, 1) := by decide +kernel
theorem dX9_sendPart_66 : decode cX9_sendPart 66 = .ok (.aload_n 1, 1) := by decide +kernel
theorem dX9_sendPart_67 : decode cX9_sendPart 67 = .ok (.getfield 191, 3) := by decide +kernel
theorem dX9_sendPart_70 : decode cX9_sendPart 70 = .ok (.isub, 1) := by decide +kernel
theorem dX9_sendPart_71 : decode cX9_sendPart 71 = .ok (.ifCond .ge 27, 3) := by decide +kernel
theorem dX9_sendPart_74 : decode cX9_sendPart 74 = .ok (.aload_n 0, 1) := by decide +kernel
theorem dX9_sendPart_75 : decode cX9_sendPart 75 = .ok (.getfield 9, 3) := by decide +kernel
theorem dX9_sendPart_78 : decode cX9_sendPart 78 = .ok (.getfield 140, 3) := by decide +kernel
theorem dX9_sendPart_81 : decode cX9_sendPart 81 = .ok (.iconst 3, 1) := by decide +kernel
theorem dX9_sendPart_82 : decode cX9_sendPart 82 = .ok (.dup2, 1) := by decide +kernel
theorem dX9_sendPart_83 : decode cX9_sendPart 83 = .ok (.iaload, 1) := by decide +kernel
theorem dX9_sendPart_84 : decode cX9_sendPart 84 = .ok (.iconst 1, 1) := by decide +kernel
theorem dX9_sendPart_85 : decode cX9_sendPart 85 = .ok (.iadd, 1) := by decide +kernel
theorem dX9_sendPart_86 : decode cX9_sendPart 86 = .ok (.iastore, 1) := by decide +kernel
theorem dX9_sendPart_87 : decode cX9_sendPart 87 = .ok (.aload_n 1, 1) := by decide +kernel
theorem dX9_sendPart_88 : decode cX9_sendPart 88 = .ok (.getfield 49, 3) := by decide +kernel
theorem dX9_sendPart_91 : decode cX9_sendPart 91 = .ok (.iconst 0, 1) := by decide +kernel
theorem dX9_sendPart_92 : decode cX9_sendPart 92 = .ok (.putfield 256, 3) := by decide +kernel
theorem dX9_sendPart_95 : decode cX9_sendPart 95 = .ok (.goto 18, 3) := by decide +kernel
theorem dX9_sendPart_98 : decode cX9_sendPart 98 = .ok (.aload_n 1, 1) := by decide +kernel
theorem dX9_sendPart_99 : decode cX9_sendPart 99 = .ok (.getfield 49, 3) := by decide +kernel
theorem dX9_sendPart_102 : decode cX9_sendPart 102 = .ok (.iload_n 2, 1) := by decide +kernel
theorem dX9_sendPart_103 : decode cX9_sendPart 103 = .ok (.aload_n 0, 1) := by decide +kernel
theorem dX9_sendPart_104 : decode cX9_sendPart 104 = .ok (.getfield 9, 3) := by decide +kernel
theorem dX9_sendPart_107 : decode cX9_sendPart 107 = .ok (.getfield 147, 3) := by decide +kernel
theorem dX9_sendPart_110 : decode cX9_sendPart 110 = .ok (.invokevirtual 157, 3) := by decide +kernel
theorem dX9_sendPart_113 : decode cX9_sendPart 113 = .ok (.aload_n 1, 1) := by decide +kernel
theorem dX9_sendPart_114 : decode cX9_sendPart 114 = .ok (.getfield 49, 3) := by decide +kernel
theorem dX9_sendPart_117 : decode cX9_sendPart 117 = .ok (.getfield 53, 3) := by decide +kernel
theorem dX9_sendPart_120 : decode cX9_sendPart 120 = .ok (.ldc 48, 2) := by decide +kernel
theorem dX9_sendPart_122 : decode cX9_sendPart 122 = .ok (.if_icmp .ne 25, 3) := by decide +kernel
theorem dX9_sendPart_125 : decode cX9_sendPart 125 = .ok (.aload_n 1, 1) := by decide +kernel
theorem dX9_sendPart_126 : decode cX9_sendPart 126 = .ok (.getfield 49, 3) := by decide +kernel
theorem dX9_sendPart_129 : decode cX9_sendPart 129 = .ok (.aload_n 0, 1) := by decide +kernel
theorem dX9_sendPart_130 : decode cX9_sendPart 130 = .ok (.getfield 9, 3) := by decide +kernel
theorem dX9_sendPart_133 : decode cX9_sendPart 133 = .ok (.getfield 147, 3) := by decide +kernel
theorem dX9_sendPart_136 : decode cX9_sendPart 136 = .ok (.aload_n 1, 1) := by decide +kernel
theorem dX9_sendPart_137 : decode cX9_sendPart 137 = .ok (.getfield 49, 3) := by decide +kernel
theorem dX9_sendPart_140 : decode cX9_sendPart 140 = .ok (.getfield 161, 3) := by decide +kernel
theorem dX9_sendPart_143 : decode cX9_sendPart 143 = .ok (.iadd, 1) := by decide +kernel
theorem dX9_sendPart_144 : decode cX9_sendPart 144 = .ok (.putfield 53, 3) := by decide +kernel
theorem dX9_sendPart_147 : decode cX9_sendPart 147 = .ok (.aload_n 0, 1) := by decide +kernel
theorem dX9_sendPart_148 : decode cX9_sendPart 148 = .ok (.aload_n 1, 1) := by decide +kernel
theorem dX9_sendPart_149 : decode cX9_sendPart 149 = .ok (.iload_n 2, 1) := by decide +kernel
theorem dX9_sendPart_150 : decode cX9_sendPart 150 = .ok (.aload_n 1, 1) := by decide +kernel
theorem dX9_sendPart_151 : decode cX9_sendPart 151 = .ok (.getfield 262, 3) := by decide +kernel
theorem dX9_sendPart_154 : decode cX9_sendPart 154 = .ok (.isub, 1) := by decide +kernel
theorem dX9_sendPart_155 : decode cX9_sendPart 155 = .ok (.iload 4, 2) := by decide +kernel
theorem dX9_sendPart_157 : decode cX9_sendPart 157 = .ok (.invokevirtual 265, 3) := by decide +kernel
theorem dX9_sendPart_160 : decode cX9_sendPart 160 = .ok (.aload_n 0, 1) := by decide +kernel
theorem dX9_sendPart_161 : decode cX9_sendPart 161 = .ok (.getfield 15, 3) := by decide +kernel
theorem dX9_sendPart_164 : decode cX9_sendPart 164 = .ok (.aload_n 1, 1) := by decide +kernel
theorem dX9_sendPart_165 : decode cX9_sendPart 165 = .ok (.getfield 125, 3) := by decide +kernel
theorem dX9_sendPart_168 : decode cX9_sendPart 168 = .ok (.bipush 6, 2) := by decide +kernel
theorem dX9_sendPart_170 : decode cX9_sendPart 170 = .ok (.aload_n 0, 1) := by decide +kernel
theorem dX9_sendPart_171 : decode cX9_sendPart 171 = .ok (.aload_n 1, 1) := by decide +kernel
theorem dX9_sendPart_172 : decode cX9_sendPart 172 = .ok (.iload_n 2, 1) := by decide +kernel
theorem dX9_sendPart_173 : decode cX9_sendPart 173 = .ok (.iload 5, 2) := by decide +kernel
theorem dX9_sendPart_175 : decode cX9_sendPart 175 = .ok (.iload 4, 2) := by decide +kernel
theorem dX9_sendPart_177 : decode cX9_sendPart 177 = .ok (.invokevirtual 268, 3) := by decide +kernel
theorem dX9_sendPart_180 : decode cX9_sendPart 180 = .ok (.invokevirtual 272, 3) := by decide +kernel
theorem dX9_sendPart_183 : decode cX9_sendPart 183 = .ok (.return_, 1) := by decide +kernel
theorem wX9_sendPart_L147 {x : GX} {n0 sl0 : Nat} (X : Cx x cX9_sendPart RX9 none n0 sl0 4 92) {out : Mm} (hE : Ends x n0 sl0 none out) (hn : xn x = 6) (fu : Nat)   (a0 : Nat) (a1 : Option Nat) (a2 : Int32) (a4 : Int32) (a5 : Int32)  (M : Mm) (h : fX9_sendPart_L147 fu  a0 a1 a2 a4 a5 M = some out) : Gw x M 147 [(0, pR (some a0)), (1, pR a1), (2, pI a2), (4, pI a4), (5, pI a5)] [] := by
  unfold fX9_sendPart_L147 at h
  refine g_aload_n X (pc := 147) 0 rfl rfl dX9_sendPart_147 ?_
  refine g_aload_n X (pc := 148) 1 rfl rfl dX9_sendPart_148 ?_
  refine g_iload_n X (pc := 149) 2 rfl rfl dX9_sendPart_149 ?_
  refine g_aload_n X (pc := 150) 1 rfl rfl dX9_sendPart_150 ?_
  obtain ⟨v1, ev1, h⟩ := bd h
  refine g_getI X (pc := 151) fk_1_13 rfl rfl ev1 tb_988 dX9_sendPart_151 ?_
  refine g_isub X (pc := 154) dX9_sendPart_154 ?_
  refine g_iload X (pc := 155) 3 rfl dX9_sendPart_155 ?_
  obtain ⟨q2, eq2, h⟩ := bd h
  obtain ⟨M3, eM3, h⟩ := bd h
  refine g_callV X (pc := 157) (M' := M3) (ro := none) (c := 9) rfl (by decide) (as := [pR a1, pI (a2 - v1), pI a4]) (as' := [pI a4, pI (a2 - v1), pR a1]) (st := []) eq2 (ctX9_copyAnswer _ _ _ _ _ _ fu q2 a1 (a2 - v1) a4 M _ eM3) tb_689 tb_686 tb_688 ts_21 tb_6 ⟨rfl, hyX9_copyAnswer⟩ rfl rfl ⟨by decide, by decide⟩ (Nat.le_of_ble_eq_true rfl) dX9_sendPart_157 ?_
  refine g_aload_n X (pc := 160) 0 rfl rfl dX9_sendPart_160 ?_
  obtain ⟨v4, ev4, h⟩ := bd h
  refine g_getR X (pc := 161) fk_9_1 rfl rfl ev4 tb_235 dX9_sendPart_161 ?_
  refine g_aload_n X (pc := 164) 1 rfl rfl dX9_sendPart_164 ?_
  obtain ⟨v5, ev5, h⟩ := bd h
  refine g_getI X (pc := 165) fk_1_1 rfl rfl ev5 tb_962 dX9_sendPart_165 ?_
  refine g_bipush X (pc := 168) (v := 6) dX9_sendPart_168 (by decide) ?_
  refine g_aload_n X (pc := 170) 0 rfl rfl dX9_sendPart_170 ?_
  refine g_aload_n X (pc := 171) 1 rfl rfl dX9_sendPart_171 ?_
  refine g_iload_n X (pc := 172) 2 rfl rfl dX9_sendPart_172 ?_
  refine g_iload X (pc := 173) 4 rfl dX9_sendPart_173 ?_
  refine g_iload X (pc := 175) 3 rfl dX9_sendPart_175 ?_
  obtain ⟨q6, eq6, h⟩ := bd h
  obtain ⟨v8, M7, eM7, h⟩ := b2d h
  refine g_callV X (pc := 177) (M' := M7) (ro := some (pI v8)) (c := 9) rfl (by decide) (as := [pR a1, pI a2, pI a5, pI a4]) (as' := [pI a4, pI a5, pI a2, pR a1]) (st := [pI (6 : Int32), pI v5, pR v4]) eq6 (ctX9_fill _ _ _ _ _ _ fu q6 a1 a2 a5 a4 M3 _ eM7) tb_593 tb_590 tb_592 ts_12 tb_6 ⟨rfl, hyX9_fill⟩ rfl rfl ⟨by decide, by decide⟩ (Nat.le_of_ble_eq_true rfl) dX9_sendPart_177 ?_
  obtain ⟨q9, eq9, h⟩ := bd h
  obtain ⟨M10, eM10, h⟩ := bd h
  refine g_callV X (pc := 180) (M' := M10) (ro := none) (c := 4) rfl (by decide) (as := [pI v5, pI (6 : Int32), pI v8]) (as' := [pI v8, pI (6 : Int32), pI v5]) (st := []) eq9 (ctX4_send _ _ _ _ _ _ fu q9 v5 (6 : Int32) v8 M7 _ eM10) tb_627 tb_624 tb_625 tb_626 tb_4 ⟨rfl, hyX4_send⟩ rfl rfl ⟨by decide, by decide⟩ (Nat.le_of_ble_eq_true rfl) dX9_sendPart_180 ?_
  obtain rfl := Option.some.inj h
  exact g_return X hE dX9_sendPart_183
theorem wX9_sendPart_L113 {x : GX} {n0 sl0 : Nat} (X : Cx x cX9_sendPart RX9 none n0 sl0 4 92) {out : Mm} (hE : Ends x n0 sl0 none out) (hn : xn x = 6) (fu : Nat)   (a0 : Nat) (a1 : Option Nat) (a2 : Int32) (a4 : Int32) (a5 : Int32)  (M : Mm) (h : fX9_sendPart_L113 fu  a0 a1 a2 a4 a5 M = some out) : Gw x M 113 [(0, pR (some a0)), (1, pR a1), (2, pI a2), (4, pI a4), (5, pI a5)] [] := by
  unfold fX9_sendPart_L113 at h
  refine g_aload_n X (pc := 113) 1 rfl rfl dX9_sendPart_113 ?_
  obtain ⟨v1, ev1, h⟩ := bd h
  refine g_getR X (pc := 114) fk_1_17 rfl rfl ev1 tb_997 dX9_sendPart_114 ?_
  obtain ⟨v2, ev2, h⟩ := bd h
  refine g_getI X (pc := 117) fk_5_4 rfl rfl ev2 tb_912 dX9_sendPart_117 ?_
  refine g_ldc X (pc := 120) tb_487 dX9_sendPart_120 ?_
  refine g_icmp_ne X (pc := 122) (tgt := 147) dX9_sendPart_122 (by decide) (fun hc => ?_) (fun hc => ?_)
  · have h := (if_neg hc).symm.trans h
    exact wX9_sendPart_L147 X hE hn fu   a0 a1 a2 a4 a5 M h
  · have h := (if_pos hc).symm.trans h
    refine g_aload_n X (pc := 125) 1 rfl rfl dX9_sendPart_125 ?_
    obtain ⟨v3, ev3, h⟩ := bd h
    refine g_getR X (pc := 126) fk_1_17 rfl rfl ev3 tb_997 dX9_sendPart_126 ?_
    refine g_aload_n X (pc := 129) 0 rfl rfl dX9_sendPart_129 ?_
    obtain ⟨v4, ev4, h⟩ := bd h
    refine g_getR X (pc := 130) fk_9_0 rfl rfl ev4 tb_234 dX9_sendPart_130 ?_
    obtain ⟨v5, ev5, h⟩ := bd h
    refine g_getI X (pc := 133) fk_10_1 rfl rfl ev5 tb_71 dX9_sendPart_133 ?_
    refine g_aload_n X (pc := 136) 1 rfl rfl dX9_sendPart_136 ?_
    obtain ⟨v6, ev6, h⟩ := bd h
    refine g_getR X (pc := 137) fk_1_17 rfl rfl ev6 tb_997 dX9_sendPart_137 ?_
    obtain ⟨v7, ev7, h⟩ := bd h
    refine g_getI X (pc := 140) fk_5_3 rfl rfl ev7 tb_908 dX9_sendPart_140 ?_
    refine g_iadd X (pc := 143) dX9_sendPart_143 ?_
    obtain ⟨M8, eM8, h⟩ := bd h
    refine g_putI X (pc := 144) fk_5_4 rfl rfl rfl eM8 tb_912 (Or.inl rfl) dX9_sendPart_144 ?_
    exact wX9_sendPart_L147 X hE hn fu   a0 a1 a2 a4 a5 M8 h
theorem wX9_sendPart_L65 {x : GX} {n0 sl0 : Nat} (X : Cx x cX9_sendPart RX9 none n0 sl0 4 92) {out : Mm} (hE : Ends x n0 sl0 none out) (hn : xn x = 6) (fu : Nat)   (a0 : Nat) (a1 : Option Nat) (a2 : Int32) (a4 : Int32) (a5 : Int32)  (M : Mm) (h : fX9_sendPart_L65 fu  a0 a1 a2 a4 a5 M = some out) : Gw x M 65 [(0, pR (some a0)), (1, pR a1), (2, pI a2), (4, pI a4), (5, pI a5)] [] := by
  unfold fX9_sendPart_L65 at h
  refine g_iload_n X (pc := 65) 2 rfl rfl dX9_sendPart_65 ?_
  refine g_aload_n X (pc := 66) 1 rfl rfl dX9_sendPart_66 ?_
  obtain ⟨v1, ev1, h⟩ := bd h
  refine g_getI X (pc := 67) fk_1_6 rfl rfl ev1 tb_973 dX9_sendPart_67 ?_
  refine g_isub X (pc := 70) dX9_sendPart_70 ?_
  refine g_if_ge X (pc := 71) (tgt := 98) dX9_sendPart_71 (by decide) (fun hc => ?_) (fun hc => ?_)
  · have h := (if_pos hc).symm.trans h
    refine g_aload_n X (pc := 98) 1 rfl rfl dX9_sendPart_98 ?_
    obtain ⟨v2, ev2, h⟩ := bd h
    refine g_getR X (pc := 99) fk_1_17 rfl rfl ev2 tb_997 dX9_sendPart_99 ?_
    refine g_iload_n X (pc := 102) 2 rfl rfl dX9_sendPart_102 ?_
    refine g_aload_n X (pc := 103) 0 rfl rfl dX9_sendPart_103 ?_
    obtain ⟨v3, ev3, h⟩ := bd h
    refine g_getR X (pc := 104) fk_9_0 rfl rfl ev3 tb_234 dX9_sendPart_104 ?_
    obtain ⟨v4, ev4, h⟩ := bd h
    refine g_getI X (pc := 107) fk_10_1 rfl rfl ev4 tb_71 dX9_sendPart_107 ?_
    obtain ⟨q5, eq5, h⟩ := bd h
    obtain ⟨M6, eM6, h⟩ := bd h
    refine g_callV X (pc := 110) (M' := M6) (ro := none) (c := 5) rfl (by decide) (as := [pI a2, pI v4]) (as' := [pI v4, pI a2]) (st := []) eq5 (ctX5_startTiming _ _ _ _ _ _ fu q5 a2 v4 M _ eM6) tb_685 tb_682 tb_683 tb_684 tb_20 ⟨rfl, hyX5_startTiming⟩ rfl rfl ⟨by decide, by decide⟩ (Nat.le_of_ble_eq_true rfl) dX9_sendPart_110 ?_
    exact wX9_sendPart_L113 X hE hn fu   a0 a1 a2 a4 a5 M6 h
  · have h := (if_neg hc).symm.trans h
    refine g_aload_n X (pc := 74) 0 rfl rfl dX9_sendPart_74 ?_
    obtain ⟨v7, ev7, h⟩ := bd h
    refine g_getR X (pc := 75) fk_9_0 rfl rfl ev7 tb_234 dX9_sendPart_75 ?_
    obtain ⟨v8, ev8, h⟩ := bd h
    refine g_getR X (pc := 78) fk_10_0 rfl rfl ev8 tb_65 dX9_sendPart_78 ?_
    refine g_iconst X (pc := 81) (v := 3) dX9_sendPart_81 (by decide) ?_
    refine g_dup2 X (pc := 82) rfl rfl dX9_sendPart_82 ?_
    obtain ⟨v9, ev9, h⟩ := bd h
    refine g_iaload X (pc := 83) ev9 dX9_sendPart_83 ?_
    refine g_iconst X (pc := 84) (v := 1) dX9_sendPart_84 (by decide) ?_
    refine g_iadd X (pc := 85) dX9_sendPart_85 ?_
    obtain ⟨M10, eM10, h⟩ := bd h
    refine g_iastore X (pc := 86) eM10 dX9_sendPart_86 ?_
    refine g_aload_n X (pc := 87) 1 rfl rfl dX9_sendPart_87 ?_
    obtain ⟨v11, ev11, h⟩ := bd h
    refine g_getR X (pc := 88) fk_1_17 rfl rfl ev11 tb_997 dX9_sendPart_88 ?_
    refine g_iconst X (pc := 91) (v := 0) dX9_sendPart_91 (by decide) ?_
    obtain ⟨M12, eM12, h⟩ := bd h
    refine g_putZ X (pc := 92) fk_5_8 rfl rfl rfl eM12 tb_922 (Or.inl rfl) dX9_sendPart_92 ?_
    refine g_goto X (pc := 95) (tgt := 113) dX9_sendPart_95 (by decide) ?_
    exact wX9_sendPart_L113 X hE hn fu   a0 a1 a2 a4 a5 M12 h
theorem wX9_sendPart_L49 {x : GX} {n0 sl0 : Nat} (X : Cx x cX9_sendPart RX9 none n0 sl0 4 92) {out : Mm} (hE : Ends x n0 sl0 none out) (hn : xn x = 6) (fu : Nat)   (a0 : Nat) (a1 : Option Nat) (a2 : Int32) (a3 : Int32) (a4 : Int32) (a5 : Int32)  (M : Mm) (h : fX9_sendPart_L49 fu  a0 a1 a2 a3 a4 a5 M = some out) : Gw x M 49 [(0, pR (some a0)), (1, pR a1), (2, pI a2), (3, pI a3), (4, pI a4), (5, pI a5)] [] := by
  unfold fX9_sendPart_L49 at h
  refine g_iload_n X (pc := 49) 3 rfl rfl dX9_sendPart_49 ?_
  refine g_iload X (pc := 50) 4 rfl dX9_sendPart_50 ?_
  refine g_icmp_le X (pc := 52) (tgt := 65) dX9_sendPart_52 (by decide) (fun hc => ?_) (fun hc => ?_)
  · have h := (if_pos hc).symm.trans h
    refine g_sub [0, 1, 2, 4, 5] [(0, pR (some a0)), (1, pR a1), (2, pI a2), (4, pI a4), (5, pI a5)] rfl ?_
    exact wX9_sendPart_L65 X hE hn fu   a0 a1 a2 a4 a5 M h
  · have h := (if_neg hc).symm.trans h
    refine g_iload X (pc := 55) 5 rfl dX9_sendPart_55 ?_
    refine g_iconst X (pc := 57) (v := 1) dX9_sendPart_57 (by decide) ?_
    refine g_ior X (pc := 58) dX9_sendPart_58 ?_
    refine g_istore X (pc := 59) [(5, pI (a5 ||| (1 : Int32))), (0, pR (some a0)), (1, pR a1), (2, pI a2), (3, pI a3), (4, pI a4)] (lt_n hn (by decide)) rfl dX9_sendPart_59 ?_
    refine g_aload_n X (pc := 61) 2 rfl rfl dX9_sendPart_61 ?_
    obtain ⟨q1, eq1, h⟩ := bd h
    obtain ⟨M2, eM2, h⟩ := bd h
    refine g_callV X (pc := 62) (M' := M2) (ro := none) (c := 1) rfl (by decide) (as := []) (as' := []) (st := []) eq1 (ctX1_finGoes _ _ _ _ _ _ fu q1  M _ eM2) tb_681 tb_678 tb_679 tb_680 tb_18 ⟨rfl, hyX1_finGoes⟩ rfl rfl ⟨by decide, by decide⟩ (Nat.le_of_ble_eq_true rfl) dX9_sendPart_62 ?_
    refine g_sub [1, 2, 3, 5, 0] [(0, pR (some a0)), (1, pR a1), (2, pI a2), (4, pI a4), (5, pI (a5 ||| (1 : Int32)))] rfl ?_
    exact wX9_sendPart_L65 X hE hn fu   a0 a1 a2 a4 (a5 ||| (1 : Int32)) M2 h
theorem wX9_sendPart {x : GX} {n0 sl0 : Nat} (X : Cx x cX9_sendPart RX9 none n0 sl0 4 92) {out : Mm} (hE : Ends x n0 sl0 none out) (hn : xn x = 6) (fu : Nat)   (a0 : Nat) (a1 : Option Nat) (a2 : Int32) (a3 : Int32)  (M : Mm) (h : fX9_sendPart fu  a0 a1 a2 a3 M = some out) : Gw x M 0 [(0, pR (some a0)), (1, pR a1), (2, pI a2), (3, pI a3)] [] := by
  unfold fX9_sendPart at h
  refine g_iload_n X (pc := 0) 3 rfl rfl dX9_sendPart_0 ?_
  refine g_aload_n X (pc := 1) 1 rfl rfl dX9_sendPart_1 ?_
  obtain ⟨q1, eq1, h⟩ := bd h
  obtain ⟨v3, M2, eM2, h⟩ := b2d h
  refine g_callV X (pc := 2) (M' := M2) (ro := some (pI v3)) (c := 1) rfl (by decide) (as := []) (as' := []) (st := [pI a3]) eq1 (ctX1_dataEnd _ _ _ _ _ _ fu q1  M _ eM2) tb_507 tb_677 tb_505 tb_506 tb_18 ⟨rfl, hyX1_dataEnd⟩ rfl rfl ⟨by decide, by decide⟩ (Nat.le_of_ble_eq_true rfl) dX9_sendPart_2 ?_
  refine g_iload_n X (pc := 5) 2 rfl rfl dX9_sendPart_5 ?_
  refine g_isub X (pc := 6) dX9_sendPart_6 ?_
  refine g_mmin X (pc := 7) tb_508 tb_348 tb_13 tb_349 ⟨by decide, Nat.le_of_ble_eq_true rfl⟩ dX9_sendPart_7 ?_
  refine g_istore X (pc := 10) [(4, pI (jmin a3 (v3 - a2))), (0, pR (some a0)), (1, pR a1), (2, pI a2), (3, pI a3)] (lt_n hn (by decide)) rfl dX9_sendPart_10 ?_
  refine g_iload_n X (pc := 12) 4 rfl rfl dX9_sendPart_12 ?_
  refine g_if_le X (pc := 13) (tgt := 21) dX9_sendPart_13 (by decide) (fun hc => ?_) (fun hc => ?_)
  · have h := (if_pos hc).symm.trans h
    obtain rfl := Option.some.inj h
    exact g_return X hE dX9_sendPart_21
  · have h := (if_neg hc).symm.trans h
    refine g_iload X (pc := 16) 0 rfl dX9_sendPart_16 ?_
    refine g_if_ge X (pc := 18) (tgt := 22) dX9_sendPart_18 (by decide) (fun hc => ?_) (fun hc => ?_)
    · have h := (if_pos hc).symm.trans h
      refine g_bipush X (pc := 22) (v := 16) dX9_sendPart_22 (by decide) ?_
      refine g_istore X (pc := 24) [(5, pI (16 : Int32)), (4, pI (jmin a3 (v3 - a2))), (0, pR (some a0)), (1, pR a1), (2, pI a2), (3, pI a3)] (lt_n hn (by decide)) rfl dX9_sendPart_24 ?_
      refine g_iload X (pc := 26) 1 rfl dX9_sendPart_26 ?_
      refine g_if_le X (pc := 28) (tgt := 49) dX9_sendPart_28 (by decide) (fun hc => ?_) (fun hc => ?_)
      · have h := (if_pos hc).symm.trans h
        refine g_sub [2, 3, 4, 5, 1, 0] [(0, pR (some a0)), (1, pR a1), (2, pI a2), (3, pI a3), (4, pI (jmin a3 (v3 - a2))), (5, pI (16 : Int32))] rfl ?_
        exact wX9_sendPart_L49 X hE hn fu   a0 a1 a2 a3 (jmin a3 (v3 - a2)) (16 : Int32) M2 h
      · have h := (if_neg hc).symm.trans h
        refine g_iload_n X (pc := 31) 4 rfl rfl dX9_sendPart_31 ?_
        refine g_iload X (pc := 32) 1 rfl dX9_sendPart_32 ?_
        refine g_iadd X (pc := 34) dX9_sendPart_34 ?_
        refine g_aload_n X (pc := 35) 3 rfl rfl dX9_sendPart_35 ?_
        obtain ⟨q4, eq4, h⟩ := bd h
        obtain ⟨v6, M5, eM5, h⟩ := b2d h
        refine g_callV X (pc := 36) (M' := M5) (ro := some (pI v6)) (c := 1) rfl (by decide) (as := []) (as' := []) (st := [pI (a2 + (jmin a3 (v3 - a2)))]) eq4 (ctX1_dataEnd _ _ _ _ _ _ fu q4  M2 _ eM5) tb_507 tb_677 tb_505 tb_506 tb_18 ⟨rfl, hyX1_dataEnd⟩ rfl rfl ⟨by decide, by decide⟩ (Nat.le_of_ble_eq_true rfl) dX9_sendPart_36 ?_
        refine g_icmp_ne X (pc := 39) (tgt := 49) dX9_sendPart_39 (by decide) (fun hc => ?_) (fun hc => ?_)
        · have h := (if_neg hc).symm.trans h
          refine g_sub [2, 3, 4, 5, 1, 0] [(0, pR (some a0)), (1, pR a1), (2, pI a2), (3, pI a3), (4, pI (jmin a3 (v3 - a2))), (5, pI (16 : Int32))] rfl ?_
          exact wX9_sendPart_L49 X hE hn fu   a0 a1 a2 a3 (jmin a3 (v3 - a2)) (16 : Int32) M5 h
        · have h := (if_pos hc).symm.trans h
          refine g_iload X (pc := 42) 0 rfl dX9_sendPart_42 ?_
          refine g_bipush X (pc := 44) (v := 8) dX9_sendPart_44 (by decide) ?_
          refine g_ior X (pc := 46) dX9_sendPart_46 ?_
          refine g_istore X (pc := 47) [(5, pI ((16 : Int32) ||| (8 : Int32))), (4, pI (jmin a3 (v3 - a2))), (0, pR (some a0)), (1, pR a1), (2, pI a2), (3, pI a3)] (lt_n hn (by decide)) rfl dX9_sendPart_47 ?_
          refine g_sub [2, 3, 4, 5, 1, 0] [(0, pR (some a0)), (1, pR a1), (2, pI a2), (3, pI a3), (4, pI (jmin a3 (v3 - a2))), (5, pI ((16 : Int32) ||| (8 : Int32)))] rfl ?_
          exact wX9_sendPart_L49 X hE hn fu   a0 a1 a2 a3 (jmin a3 (v3 - a2)) ((16 : Int32) ||| (8 : Int32)) M5 h
    · have h := (if_neg hc).symm.trans h
      obtain rfl := Option.some.inj h
      exact g_return X hE dX9_sendPart_21
theorem hyX9_sendPart : yX9_sendPart.cls ≠ "java/lang/invoke/MethodHandle" ∧ yX9_sendPart.cls ≠ "java/lang/invoke/VarHandle" ∧ (parseMethodDescriptor yX9_sendPart.desc).map (fun d => d.parameters.length) = some 3 := ⟨by decide +kernel, by decide +kernel, by decide +kernel⟩
theorem ctX9_sendPart (l : Launch) (E : Nat → Nat) (D : va_G) (dA : Nat → ClassId) (lo : Nat) (H0 : Heap) (fu : Nat) (a0 : Nat) (a1 : Option Nat) (a2 : Int32) (a3 : Int32) (M : Mm) (out : Mm) (h : fX9_sendPart fu a0 a1 a2 a3 M = some out) : Ct l E D dA lo H0 yX9_sendPart cX9_sendPart 6 none 4 92 [pR (some a0), pR a1, pI a2, pI a3] M none out := by
  refine ct_of (by decide +kernel) (Nat.le_of_ble_eq_true rfl) ?_
  intro x hl he hd ha ho hh hn hin X hE
  exact wX9_sendPart X hE hn fu a0 a1 a2 a3 M h
/-! WebHost$Tcp.isAcknowledged(LWebHost$Connection;)Z -/
def fX9_isAcknowledged_L171 (fu : Nat)  (a1 : Option Nat)  (M : Mm) : Option (Int32 × Mm) :=
    (gI M 1 64 a1).bind fun v1 =>
    if v1 = 0 then (
    rN .boolean (0 : Int32) M)
    else (
    rN .boolean (1 : Int32) M)
def fX9_isAcknowledged_L140 (fu : Nat)  (a0 : Nat) (a1 : Option Nat)  (M : Mm) : Option (Int32 × Mm) :=
    (gI M 1 74 a1).bind fun v1 =>
    if v1 = 0 then (
    fX9_isAcknowledged_L171 fu  a1 M)
    else (
    (gI M 1 68 a1).bind fun v2 =>
    (rc M 1 a1).bind fun q3 =>
    b2 (fX1_dataEnd fu q3  M) fun v5 M4 =>
    if v2 = (v5 + (1 : Int32)) then (
    (gR M4 9 576 (some a0)).bind fun v6 =>
    (gI M4 10 641 v6).bind fun v7 =>
    (rc M4 1 a1).bind fun q8 =>
    (fX1_finIsAcknowledged fu q8 v7 M4).bind fun M9 =>
    fX9_isAcknowledged_L171 fu  a1 M9)
    else (
    fX9_isAcknowledged_L171 fu  a1 M4))
def fX9_isAcknowledged_L125 (fu : Nat)  (a0 : Nat) (a1 : Option Nat)  (M : Mm) : Option (Int32 × Mm) :=
    (gI M 1 71 a1).bind fun v1 =>
    if v1 = 0 then (
    (gR M 1 81 a1).bind fun v2 =>
    (pF M 5 325 v2 (0 : Int32)).bind fun M3 =>
    fX9_isAcknowledged_L140 fu  a0 a1 M3)
    else (
    fX9_isAcknowledged_L140 fu  a0 a1 M)
def fX9_isAcknowledged_L91 (fu : Nat)  (a0 : Nat) (a1 : Option Nat)  (M : Mm) : Option (Int32 × Mm) :=
    (gR M 9 579 (some a0)).bind fun v1 =>
    (gI M 3 197 v1).bind fun v2 =>
    (gI M 1 68 a1).bind fun v3 =>
    if (v2 - v3) < 0 then (
    fX9_isAcknowledged_L140 fu  a0 a1 M)
    else (
    (gR M 9 579 (some a0)).bind fun v4 =>
    (rc M 1 a1).bind fun q5 =>
    b2 (fX1_isWindowNewer fu q5 v4 M) fun v7 M6 =>
    if v7 = 0 then (
    fX9_isAcknowledged_L125 fu  a0 a1 M6)
    else (
    (gR M6 9 579 (some a0)).bind fun v8 =>
    (rc M6 1 a1).bind fun q9 =>
    (fX1_takeWindow fu q9 v8 M6).bind fun M10 =>
    fX9_isAcknowledged_L125 fu  a0 a1 M10))
def fX9_isAcknowledged (fu : Nat)  (a0 : Nat) (a1 : Option Nat)  (M : Mm) : Option (Int32 × Mm) :=
    (gR M 9 579 (some a0)).bind fun v1 =>
    (gI M 3 197 v1).bind fun v2 =>
    (gI M 1 70 a1).bind fun v3 =>
    if (v2 - v3) ≤ 0 then (
    (gR M 9 579 (some a0)).bind fun v4 =>
    (gI M 3 197 v4).bind fun v5 =>
    (gI M 1 68 a1).bind fun v6 =>
    if (v5 - v6) ≤ 0 then (
    (rc M 9 (some a0)).bind fun q7 =>
    b2 (fX9_isDuplicate fu q7 a1 M) fun v9 M8 =>
    if v9 = 0 then (
    fX9_isAcknowledged_L91 fu  a0 a1 M8)
    else (
    (gR M8 1 81 a1).bind fun v10 =>
    (gI M8 1 70 a1).bind fun v11 =>
    (gI M8 1 68 a1).bind fun v12 =>
    (rc M8 5 v10).bind fun q13 =>
    b2 (fX5_countDuplicate fu q13 (v11 - v12) M8) fun v15 M14 =>
    if v15 = 0 then (
    fX9_isAcknowledged_L91 fu  a0 a1 M14)
    else (
    (gI M14 1 68 a1).bind fun v16 =>
    (rc M14 1 a1).bind fun q17 =>
    b2 (fX1_goesAgain fu q17  M14) fun v19 M18 =>
    (rc M18 9 (some a0)).bind fun q20 =>
    (fX9_sendPart fu q20 a1 v16 v19 M18).bind fun M21 =>
    fX9_isAcknowledged_L91 fu  a0 a1 M21)))
    else (
    (rc M 9 (some a0)).bind fun q22 =>
    (fX9_takeNew fu q22 a1 M).bind fun M23 =>
    fX9_isAcknowledged_L91 fu  a0 a1 M23))
    else (
    (gI M 1 69 a1).bind fun v24 =>
    (rc M 9 (some a0)).bind fun q25 =>
    (fX9_sendPlain fu q25 a1 v24 (16 : Int32) M).bind fun M26 =>
    rN .boolean (0 : Int32) M26)
theorem dX9_isAcknowledged_0 : decode cX9_isAcknowledged 0 = .ok (.aload_n 0, 1) := by decide +kernel
theorem dX9_isAcknowledged_1 : decode cX9_isAcknowledged 1 = .ok (.getfield 23, 3) := by decide +kernel
theorem dX9_isAcknowledged_4 : decode cX9_isAcknowledged 4 = .ok (.getfield 181, 3) := by decide +kernel
theorem dX9_isAcknowledged_7 : decode cX9_isAcknowledged 7 = .ok (.aload_n 1, 1) := by decide +kernel
theorem dX9_isAcknowledged_8 : decode cX9_isAcknowledged 8 = .ok (.getfield 191, 3) := by decide +kernel
theorem dX9_isAcknowledged_11 : decode cX9_isAcknowledged 11 = .ok (.isub, 1) := by decide +kernel
theorem dX9_isAcknowledged_12 : decode cX9_isAcknowledged 12 = .ok (.ifCond .le 16, 3) := by decide +kernel
theorem dX9_isAcknowledged_15 : decode cX9_isAcknowledged 15 = .ok (.aload_n 0, 1) := by decide +kernel
theorem dX9_isAcknowledged_16 : decode cX9_isAcknowledged 16 = .ok (.aload_n 1, 1) := by decide +kernel
theorem dX9_isAcknowledged_17 : decode cX9_isAcknowledged 17 = .ok (.aload_n 1, 1) := by decide +kernel
theorem dX9_isAcknowledged_18 : decode cX9_isAcknowledged 18 = .ok (.getfield 115, 3) := by decide +kernel
theorem dX9_isAcknowledged_21 : decode cX9_isAcknowledged 21 = .ok (.bipush 16, 2) := by decide +kernel
theorem dX9_isAcknowledged_23 : decode cX9_isAcknowledged 23 = .ok (.invokevirtual 118, 3) := by decide +kernel
theorem dX9_isAcknowledged_26 : decode cX9_isAcknowledged 26 = .ok (.iconst 0, 1) := by decide +kernel
theorem dX9_isAcknowledged_27 : decode cX9_isAcknowledged 27 = .ok (.ireturn, 1) := by decide +kernel
theorem dX9_isAcknowledged_28 : decode cX9_isAcknowledged 28 = .ok (.aload_n 0, 1) := by decide +kernel
theorem dX9_isAcknowledged_29 : decode cX9_isAcknowledged 29 = .ok (.getfield 23, 3) := by decide +kernel
theorem dX9_isAcknowledged_32 : decode cX9_isAcknowledged 32 = .ok (.getfield 181, 3) := by decide +kernel
theorem dX9_isAcknowledged_35 : decode cX9_isAcknowledged 35 = .ok (.aload_n 1, 1) := by decide +kernel
theorem dX9_isAcknowledged_36 : decode cX9_isAcknowledged 36 = .ok (.getfield 194, 3) := by decide +kernel
theorem dX9_isAcknowledged_39 : decode cX9_isAcknowledged 39 = .ok (.isub, 1) := by decide +kernel
theorem dX9_isAcknowledged_40 : decode cX9_isAcknowledged 40 = .ok (.ifCond .le 11, 3) := by decide +kernel
theorem dX9_isAcknowledged_43 : decode cX9_isAcknowledged 43 = .ok (.aload_n 0, 1) := by decide +kernel
theorem dX9_isAcknowledged_44 : decode cX9_isAcknowledged 44 = .ok (.aload_n 1, 1) := by decide +kernel
theorem dX9_isAcknowledged_45 : decode cX9_isAcknowledged 45 = .ok (.invokevirtual 184, 3) := by decide +kernel
theorem dX9_isAcknowledged_48 : decode cX9_isAcknowledged 48 = .ok (.goto 43, 3) := by decide +kernel
theorem dX9_isAcknowledged_51 : decode cX9_isAcknowledged 51 = .ok (.aload_n 0, 1) := by decide +kernel
theorem dX9_isAcknowledged_52 : decode cX9_isAcknowledged 52 = .ok (.aload_n 1, 1) := by decide +kernel
theorem dX9_isAcknowledged_53 : decode cX9_isAcknowledged 53 = .ok (.invokevirtual 197, 3) := by decide +kernel
theorem dX9_isAcknowledged_56 : decode cX9_isAcknowledged 56 = .ok (.ifCond .eq 35, 3) := by decide +kernel
theorem dX9_isAcknowledged_59 : decode cX9_isAcknowledged 59 = .ok (.aload_n 1, 1) := by decide +kernel
theorem dX9_isAcknowledged_60 : decode cX9_isAcknowledged 60 = .ok (.getfield 49, 3) := by decide +kernel
theorem dX9_isAcknowledged_63 : decode cX9_isAcknowledged 63 = .ok (.aload_n 1, 1) := by decide +kernel
theorem dX9_isAcknowledged_64 : decode cX9_isAcknowledged 64 = .ok (.getfield 191, 3) := by decide +kernel
theorem dX9_isAcknowledged_67 : decode cX9_isAcknowledged 67 = .ok (.aload_n 1, 1) := by decide +kernel
theorem dX9_isAcknowledged_68 : decode cX9_isAcknowledged 68 = .ok (.getfield 194, 3) := by decide +kernel
theorem dX9_isAcknowledged_71 : decode cX9_isAcknowledged 71 = .ok (.isub, 1) := by decide +kernel
theorem dX9_isAcknowledged_72 : decode cX9_isAcknowledged 72 = .ok (.invokevirtual 200, 3) := by decide +kernel
theorem dX9_isAcknowledged_75 : decode cX9_isAcknowledged 75 = .ok (.ifCond .eq 16, 3) := by decide +kernel
theorem dX9_isAcknowledged_78 : decode cX9_isAcknowledged 78 = .ok (.aload_n 0, 1) := by decide +kernel
theorem dX9_isAcknowledged_79 : decode cX9_isAcknowledged 79 = .ok (.aload_n 1, 1) := by decide +kernel
theorem dX9_isAcknowledged_80 : decode cX9_isAcknowledged 80 = .ok (.aload_n 1, 1) := by decide +kernel
theorem dX9_isAcknowledged_81 : decode cX9_isAcknowledged 81 = .ok (.getfield 194, 3) := by decide +kernel
theorem dX9_isAcknowledged_84 : decode cX9_isAcknowledged 84 = .ok (.aload_n 1, 1) := by decide +kernel
theorem dX9_isAcknowledged_85 : decode cX9_isAcknowledged 85 = .ok (.invokevirtual 203, 3) := by decide +kernel
theorem dX9_isAcknowledged_88 : decode cX9_isAcknowledged 88 = .ok (.invokevirtual 206, 3) := by decide +kernel
theorem dX9_isAcknowledged_91 : decode cX9_isAcknowledged 91 = .ok (.aload_n 0, 1) := by decide +kernel
theorem dX9_isAcknowledged_92 : decode cX9_isAcknowledged 92 = .ok (.getfield 23, 3) := by decide +kernel
theorem dX9_isAcknowledged_95 : decode cX9_isAcknowledged 95 = .ok (.getfield 181, 3) := by decide +kernel
theorem dX9_isAcknowledged_98 : decode cX9_isAcknowledged 98 = .ok (.aload_n 1, 1) := by decide +kernel
theorem dX9_isAcknowledged_99 : decode cX9_isAcknowledged 99 = .ok (.getfield 194, 3) := by decide +kernel
theorem dX9_isAcknowledged_102 : decode cX9_isAcknowledged 102 = .ok (.isub, 1) := by decide +kernel
theorem dX9_isAcknowledged_103 : decode cX9_isAcknowledged 103 = .ok (.ifCond .lt 37, 3) := by decide +kernel
theorem dX9_isAcknowledged_106 : decode cX9_isAcknowledged 106 = .ok (.aload_n 1, 1) := by decide +kernel
theorem dX9_isAcknowledged_107 : decode cX9_isAcknowledged 107 = .ok (.aload_n 0, 1) := by decide +kernel
theorem dX9_isAcknowledged_108 : decode cX9_isAcknowledged 108 = .ok (.getfield 23, 3) := by decide +kernel
theorem dX9_isAcknowledged_111 : decode cX9_isAcknowledged 111 = .ok (.invokevirtual 209, 3) := by decide +kernel
theorem dX9_isAcknowledged_114 : decode cX9_isAcknowledged 114 = .ok (.ifCond .eq 11, 3) := by decide +kernel
theorem dX9_isAcknowledged_117 : decode cX9_isAcknowledged 117 = .ok (.aload_n 1, 1) := by decide +kernel
theorem dX9_isAcknowledged_118 : decode cX9_isAcknowledged 118 = .ok (.aload_n 0, 1) := by decide +kernel
theorem dX9_isAcknowledged_119 : decode cX9_isAcknowledged 119 = .ok (.getfield 23, 3) := by decide +kernel
theorem dX9_isAcknowledged_122 : decode cX9_isAcknowledged 122 = .ok (.invokevirtual 187, 3) := by decide +kernel
theorem dX9_isAcknowledged_125 : decode cX9_isAcknowledged 125 = .ok (.aload_n 1, 1) := by decide +kernel
theorem dX9_isAcknowledged_126 : decode cX9_isAcknowledged 126 = .ok (.getfield 212, 3) := by decide +kernel
theorem dX9_isAcknowledged_129 : decode cX9_isAcknowledged 129 = .ok (.ifCond .ne 11, 3) := by decide +kernel
theorem dX9_isAcknowledged_132 : decode cX9_isAcknowledged 132 = .ok (.aload_n 1, 1) := by decide +kernel
theorem dX9_isAcknowledged_133 : decode cX9_isAcknowledged 133 = .ok (.getfield 49, 3) := by decide +kernel
theorem dX9_isAcknowledged_136 : decode cX9_isAcknowledged 136 = .ok (.iconst 0, 1) := by decide +kernel
theorem dX9_isAcknowledged_137 : decode cX9_isAcknowledged 137 = .ok (.putfield 215, 3) := by decide +kernel
theorem dX9_isAcknowledged_140 : decode cX9_isAcknowledged 140 = .ok (.aload_n 1, 1) := by decide +kernel
theorem dX9_isAcknowledged_141 : decode cX9_isAcknowledged 141 = .ok (.getfield 218, 3) := by decide +kernel
theorem dX9_isAcknowledged_144 : decode cX9_isAcknowledged 144 = .ok (.ifCond .eq 27, 3) := by decide +kernel
theorem dX9_isAcknowledged_147 : decode cX9_isAcknowledged 147 = .ok (.aload_n 1, 1) := by decide +kernel
theorem dX9_isAcknowledged_148 : decode cX9_isAcknowledged 148 = .ok (.getfield 194, 3) := by decide +kernel
theorem dX9_isAcknowledged_151 : decode cX9_isAcknowledged 151 = .ok (.aload_n 1, 1) := by decide +kernel
theorem dX9_isAcknowledged_152 : decode cX9_isAcknowledged 152 = .ok (.invokevirtual 221, 3) := by decide +kernel
theorem dX9_isAcknowledged_155 : decode cX9_isAcknowledged 155 = .ok (.iconst 1, 1) := by decide +kernel
theorem dX9_isAcknowledged_156 : decode cX9_isAcknowledged 156 = .ok (.iadd, 1) := by decide +kernel
theorem dX9_isAcknowledged_157 : decode cX9_isAcknowledged 157 = .ok (.if_icmp .ne 14, 3) := by decide +kernel
theorem dX9_isAcknowledged_160 : decode cX9_isAcknowledged 160 = .ok (.aload_n 1, 1) := by decide +kernel
theorem dX9_isAcknowledged_161 : decode cX9_isAcknowledged 161 = .ok (.aload_n 0, 1) := by decide +kernel
theorem dX9_isAcknowledged_162 : decode cX9_isAcknowledged 162 = .ok (.getfield 9, 3) := by decide +kernel
theorem dX9_isAcknowledged_165 : decode cX9_isAcknowledged 165 = .ok (.getfield 147, 3) := by decide +kernel
theorem dX9_isAcknowledged_168 : decode cX9_isAcknowledged 168 = .ok (.invokevirtual 224, 3) := by decide +kernel
theorem dX9_isAcknowledged_171 : decode cX9_isAcknowledged 171 = .ok (.aload_n 1, 1) := by decide +kernel
theorem dX9_isAcknowledged_172 : decode cX9_isAcknowledged 172 = .ok (.getfield 36, 3) := by decide +kernel
theorem dX9_isAcknowledged_175 : decode cX9_isAcknowledged 175 = .ok (.ifCond .eq 7, 3) := by decide +kernel
theorem dX9_isAcknowledged_178 : decode cX9_isAcknowledged 178 = .ok (.iconst 1, 1) := by decide +kernel
theorem dX9_isAcknowledged_179 : decode cX9_isAcknowledged 179 = .ok (.goto 4, 3) := by decide +kernel
theorem dX9_isAcknowledged_182 : decode cX9_isAcknowledged 182 = .ok (.iconst 0, 1) := by decide +kernel
theorem dX9_isAcknowledged_183 : decode cX9_isAcknowledged 183 = .ok (.ireturn, 1) := by decide +kernel
theorem wX9_isAcknowledged_L171 {x : GX} {n0 sl0 : Nat} (X : Cx x cX9_isAcknowledged RX9 (some .boolean) n0 sl0 5 117) {out : Int32 × Mm} (hE : Ends x n0 sl0 (some (pI out.1)) out.2) (hn : xn x = 2) (fu : Nat)   (a1 : Option Nat)  (M : Mm) (h : fX9_isAcknowledged_L171 fu  a1 M = some out) : Gw x M 171 [(1, pR a1)] [] := by
  unfold fX9_isAcknowledged_L171 at h
  refine g_aload_n X (pc := 171) 0 rfl rfl dX9_isAcknowledged_171 ?_
  obtain ⟨v1, ev1, h⟩ := bd h
  refine g_getI X (pc := 172) fk_1_0 rfl rfl ev1 tb_959 dX9_isAcknowledged_172 ?_
  refine g_if_eq X (pc := 175) (tgt := 182) dX9_isAcknowledged_175 (by decide) (fun hc => ?_) (fun hc => ?_)
  · have h := (if_pos hc).symm.trans h
    refine g_iconst X (pc := 182) (v := 0) dX9_isAcknowledged_182 (by decide) ?_
    obtain ⟨hz, rfl⟩ := rN_some h
    exact g_nreturn X rfl hz hE dX9_isAcknowledged_183
  · have h := (if_neg hc).symm.trans h
    refine g_iconst X (pc := 178) (v := 1) dX9_isAcknowledged_178 (by decide) ?_
    refine g_goto X (pc := 179) (tgt := 183) dX9_isAcknowledged_179 (by decide) ?_
    obtain ⟨hz, rfl⟩ := rN_some h
    exact g_nreturn X rfl hz hE dX9_isAcknowledged_183
theorem wX9_isAcknowledged_L140 {x : GX} {n0 sl0 : Nat} (X : Cx x cX9_isAcknowledged RX9 (some .boolean) n0 sl0 5 117) {out : Int32 × Mm} (hE : Ends x n0 sl0 (some (pI out.1)) out.2) (hn : xn x = 2) (fu : Nat)   (a0 : Nat) (a1 : Option Nat)  (M : Mm) (h : fX9_isAcknowledged_L140 fu  a0 a1 M = some out) : Gw x M 140 [(0, pR (some a0)), (1, pR a1)] [] := by
  unfold fX9_isAcknowledged_L140 at h
  refine g_aload_n X (pc := 140) 1 rfl rfl dX9_isAcknowledged_140 ?_
  obtain ⟨v1, ev1, h⟩ := bd h
  refine g_getI X (pc := 141) fk_1_10 rfl rfl ev1 tb_981 dX9_isAcknowledged_141 ?_
  refine g_if_eq X (pc := 144) (tgt := 171) dX9_isAcknowledged_144 (by decide) (fun hc => ?_) (fun hc => ?_)
  · have h := (if_pos hc).symm.trans h
    refine g_sub [1] [(1, pR a1)] rfl ?_
    exact wX9_isAcknowledged_L171 X hE hn fu   a1 M h
  · have h := (if_neg hc).symm.trans h
    refine g_aload_n X (pc := 147) 1 rfl rfl dX9_isAcknowledged_147 ?_
    obtain ⟨v2, ev2, h⟩ := bd h
    refine g_getI X (pc := 148) fk_1_4 rfl rfl ev2 tb_968 dX9_isAcknowledged_148 ?_
    refine g_aload_n X (pc := 151) 1 rfl rfl dX9_isAcknowledged_151 ?_
    obtain ⟨q3, eq3, h⟩ := bd h
    obtain ⟨v5, M4, eM4, h⟩ := b2d h
    refine g_callV X (pc := 152) (M' := M4) (ro := some (pI v5)) (c := 1) rfl (by decide) (as := []) (as' := []) (st := [pI v2]) eq3 (ctX1_dataEnd _ _ _ _ _ _ fu q3  M _ eM4) tb_507 tb_677 tb_505 tb_506 tb_18 ⟨rfl, hyX1_dataEnd⟩ rfl rfl ⟨by decide, by decide⟩ (Nat.le_of_ble_eq_true rfl) dX9_isAcknowledged_152 ?_
    refine g_iconst X (pc := 155) (v := 1) dX9_isAcknowledged_155 (by decide) ?_
    refine g_iadd X (pc := 156) dX9_isAcknowledged_156 ?_
    refine g_icmp_ne X (pc := 157) (tgt := 171) dX9_isAcknowledged_157 (by decide) (fun hc => ?_) (fun hc => ?_)
    · have h := (if_neg hc).symm.trans h
      refine g_sub [1] [(1, pR a1)] rfl ?_
      exact wX9_isAcknowledged_L171 X hE hn fu   a1 M4 h
    · have h := (if_pos hc).symm.trans h
      refine g_aload_n X (pc := 160) 1 rfl rfl dX9_isAcknowledged_160 ?_
      refine g_aload_n X (pc := 161) 0 rfl rfl dX9_isAcknowledged_161 ?_
      obtain ⟨v6, ev6, h⟩ := bd h
      refine g_getR X (pc := 162) fk_9_0 rfl rfl ev6 tb_234 dX9_isAcknowledged_162 ?_
      obtain ⟨v7, ev7, h⟩ := bd h
      refine g_getI X (pc := 165) fk_10_1 rfl rfl ev7 tb_71 dX9_isAcknowledged_165 ?_
      obtain ⟨q8, eq8, h⟩ := bd h
      obtain ⟨M9, eM9, h⟩ := bd h
      refine g_callV X (pc := 168) (M' := M9) (ro := none) (c := 1) rfl (by decide) (as := [pI v7]) (as' := [pI v7]) (st := []) eq8 (ctX1_finIsAcknowledged _ _ _ _ _ _ fu q8 v7 M4 _ eM9) tb_1134 tb_1131 tb_1132 tb_1133 tb_18 ⟨rfl, hyX1_finIsAcknowledged⟩ rfl rfl ⟨by decide, by decide⟩ (Nat.le_of_ble_eq_true rfl) dX9_isAcknowledged_168 ?_
      refine g_sub [1] [(1, pR a1)] rfl ?_
      exact wX9_isAcknowledged_L171 X hE hn fu   a1 M9 h
theorem wX9_isAcknowledged_L125 {x : GX} {n0 sl0 : Nat} (X : Cx x cX9_isAcknowledged RX9 (some .boolean) n0 sl0 5 117) {out : Int32 × Mm} (hE : Ends x n0 sl0 (some (pI out.1)) out.2) (hn : xn x = 2) (fu : Nat)   (a0 : Nat) (a1 : Option Nat)  (M : Mm) (h : fX9_isAcknowledged_L125 fu  a0 a1 M = some out) : Gw x M 125 [(0, pR (some a0)), (1, pR a1)] [] := by
  unfold fX9_isAcknowledged_L125 at h
  refine g_aload_n X (pc := 125) 1 rfl rfl dX9_isAcknowledged_125 ?_
  obtain ⟨v1, ev1, h⟩ := bd h
  refine g_getI X (pc := 126) fk_1_7 rfl rfl ev1 tb_975 dX9_isAcknowledged_126 ?_
  refine g_if_ne X (pc := 129) (tgt := 140) dX9_isAcknowledged_129 (by decide) (fun hc => ?_) (fun hc => ?_)
  · have h := (if_neg hc).symm.trans h
    exact wX9_isAcknowledged_L140 X hE hn fu   a0 a1 M h
  · have h := (if_pos hc).symm.trans h
    refine g_aload_n X (pc := 132) 1 rfl rfl dX9_isAcknowledged_132 ?_
    obtain ⟨v2, ev2, h⟩ := bd h
    refine g_getR X (pc := 133) fk_1_17 rfl rfl ev2 tb_997 dX9_isAcknowledged_133 ?_
    refine g_iconst X (pc := 136) (v := 0) dX9_isAcknowledged_136 (by decide) ?_
    obtain ⟨M3, eM3, h⟩ := bd h
    refine g_putI X (pc := 137) fk_5_5 rfl rfl rfl eM3 tb_915 (Or.inl rfl) dX9_isAcknowledged_137 ?_
    exact wX9_isAcknowledged_L140 X hE hn fu   a0 a1 M3 h
theorem wX9_isAcknowledged_L91 {x : GX} {n0 sl0 : Nat} (X : Cx x cX9_isAcknowledged RX9 (some .boolean) n0 sl0 5 117) {out : Int32 × Mm} (hE : Ends x n0 sl0 (some (pI out.1)) out.2) (hn : xn x = 2) (fu : Nat)   (a0 : Nat) (a1 : Option Nat)  (M : Mm) (h : fX9_isAcknowledged_L91 fu  a0 a1 M = some out) : Gw x M 91 [(0, pR (some a0)), (1, pR a1)] [] := by
  unfold fX9_isAcknowledged_L91 at h
  refine g_aload_n X (pc := 91) 0 rfl rfl dX9_isAcknowledged_91 ?_
  obtain ⟨v1, ev1, h⟩ := bd h
  refine g_getR X (pc := 92) fk_9_3 rfl rfl ev1 tb_237 dX9_isAcknowledged_92 ?_
  obtain ⟨v2, ev2, h⟩ := bd h
  refine g_getI X (pc := 95) fk_3_5 rfl rfl ev2 tb_173 dX9_isAcknowledged_95 ?_
  refine g_aload_n X (pc := 98) 1 rfl rfl dX9_isAcknowledged_98 ?_
  obtain ⟨v3, ev3, h⟩ := bd h
  refine g_getI X (pc := 99) fk_1_4 rfl rfl ev3 tb_968 dX9_isAcknowledged_99 ?_
  refine g_isub X (pc := 102) dX9_isAcknowledged_102 ?_
  refine g_if_lt X (pc := 103) (tgt := 140) dX9_isAcknowledged_103 (by decide) (fun hc => ?_) (fun hc => ?_)
  · have h := (if_pos hc).symm.trans h
    exact wX9_isAcknowledged_L140 X hE hn fu   a0 a1 M h
  · have h := (if_neg hc).symm.trans h
    refine g_aload_n X (pc := 106) 1 rfl rfl dX9_isAcknowledged_106 ?_
    refine g_aload_n X (pc := 107) 0 rfl rfl dX9_isAcknowledged_107 ?_
    obtain ⟨v4, ev4, h⟩ := bd h
    refine g_getR X (pc := 108) fk_9_3 rfl rfl ev4 tb_237 dX9_isAcknowledged_108 ?_
    obtain ⟨q5, eq5, h⟩ := bd h
    obtain ⟨v7, M6, eM6, h⟩ := b2d h
    refine g_callV X (pc := 111) (M' := M6) (ro := some (pI v7)) (c := 1) rfl (by decide) (as := [pR v4]) (as' := [pR v4]) (st := []) eq5 (ctX1_isWindowNewer _ _ _ _ _ _ fu q5 v4 M _ eM6) tb_1130 tb_1127 tb_1128 tb_1129 tb_18 ⟨rfl, hyX1_isWindowNewer⟩ rfl rfl ⟨by decide, by decide⟩ (Nat.le_of_ble_eq_true rfl) dX9_isAcknowledged_111 ?_
    refine g_if_eq X (pc := 114) (tgt := 125) dX9_isAcknowledged_114 (by decide) (fun hc => ?_) (fun hc => ?_)
    · have h := (if_pos hc).symm.trans h
      exact wX9_isAcknowledged_L125 X hE hn fu   a0 a1 M6 h
    · have h := (if_neg hc).symm.trans h
      refine g_aload_n X (pc := 117) 1 rfl rfl dX9_isAcknowledged_117 ?_
      refine g_aload_n X (pc := 118) 0 rfl rfl dX9_isAcknowledged_118 ?_
      obtain ⟨v8, ev8, h⟩ := bd h
      refine g_getR X (pc := 119) fk_9_3 rfl rfl ev8 tb_237 dX9_isAcknowledged_119 ?_
      obtain ⟨q9, eq9, h⟩ := bd h
      obtain ⟨M10, eM10, h⟩ := bd h
      refine g_callV X (pc := 122) (M' := M10) (ro := none) (c := 1) rfl (by decide) (as := [pR v8]) (as' := [pR v8]) (st := []) eq9 (ctX1_takeWindow _ _ _ _ _ _ fu q9 v8 M6 _ eM10) tb_1109 tb_1106 tb_1107 tb_1108 tb_18 ⟨rfl, hyX1_takeWindow⟩ rfl rfl ⟨by decide, by decide⟩ (Nat.le_of_ble_eq_true rfl) dX9_isAcknowledged_122 ?_
      exact wX9_isAcknowledged_L125 X hE hn fu   a0 a1 M10 h
theorem wX9_isAcknowledged {x : GX} {n0 sl0 : Nat} (X : Cx x cX9_isAcknowledged RX9 (some .boolean) n0 sl0 5 117) {out : Int32 × Mm} (hE : Ends x n0 sl0 (some (pI out.1)) out.2) (hn : xn x = 2) (fu : Nat)   (a0 : Nat) (a1 : Option Nat)  (M : Mm) (h : fX9_isAcknowledged fu  a0 a1 M = some out) : Gw x M 0 [(0, pR (some a0)), (1, pR a1)] [] := by
  unfold fX9_isAcknowledged at h
  refine g_aload_n X (pc := 0) 0 rfl rfl dX9_isAcknowledged_0 ?_
  obtain ⟨v1, ev1, h⟩ := bd h
  refine g_getR X (pc := 1) fk_9_3 rfl rfl ev1 tb_237 dX9_isAcknowledged_1 ?_
  obtain ⟨v2, ev2, h⟩ := bd h
  refine g_getI X (pc := 4) fk_3_5 rfl rfl ev2 tb_173 dX9_isAcknowledged_4 ?_
  refine g_aload_n X (pc := 7) 1 rfl rfl dX9_isAcknowledged_7 ?_
  obtain ⟨v3, ev3, h⟩ := bd h
  refine g_getI X (pc := 8) fk_1_6 rfl rfl ev3 tb_973 dX9_isAcknowledged_8 ?_
  refine g_isub X (pc := 11) dX9_isAcknowledged_11 ?_
  refine g_if_le X (pc := 12) (tgt := 28) dX9_isAcknowledged_12 (by decide) (fun hc => ?_) (fun hc => ?_)
  · have h := (if_pos hc).symm.trans h
    refine g_aload_n X (pc := 28) 0 rfl rfl dX9_isAcknowledged_28 ?_
    obtain ⟨v4, ev4, h⟩ := bd h
    refine g_getR X (pc := 29) fk_9_3 rfl rfl ev4 tb_237 dX9_isAcknowledged_29 ?_
    obtain ⟨v5, ev5, h⟩ := bd h
    refine g_getI X (pc := 32) fk_3_5 rfl rfl ev5 tb_173 dX9_isAcknowledged_32 ?_
    refine g_aload_n X (pc := 35) 1 rfl rfl dX9_isAcknowledged_35 ?_
    obtain ⟨v6, ev6, h⟩ := bd h
    refine g_getI X (pc := 36) fk_1_4 rfl rfl ev6 tb_968 dX9_isAcknowledged_36 ?_
    refine g_isub X (pc := 39) dX9_isAcknowledged_39 ?_
    refine g_if_le X (pc := 40) (tgt := 51) dX9_isAcknowledged_40 (by decide) (fun hc => ?_) (fun hc => ?_)
    · have h := (if_pos hc).symm.trans h
      refine g_aload_n X (pc := 51) 0 rfl rfl dX9_isAcknowledged_51 ?_
      refine g_aload_n X (pc := 52) 1 rfl rfl dX9_isAcknowledged_52 ?_
      obtain ⟨q7, eq7, h⟩ := bd h
      obtain ⟨v9, M8, eM8, h⟩ := b2d h
      refine g_callV X (pc := 53) (M' := M8) (ro := some (pI v9)) (c := 9) rfl (by decide) (as := [pR a1]) (as' := [pR a1]) (st := []) eq7 (ctX9_isDuplicate _ _ _ _ _ _ fu q7 a1 M _ eM8) tb_1117 tb_1114 tb_1116 ts_36 tb_6 ⟨rfl, hyX9_isDuplicate⟩ rfl rfl ⟨by decide, by decide⟩ (Nat.le_of_ble_eq_true rfl) dX9_isAcknowledged_53 ?_
      refine g_if_eq X (pc := 56) (tgt := 91) dX9_isAcknowledged_56 (by decide) (fun hc => ?_) (fun hc => ?_)
      · have h := (if_pos hc).symm.trans h
        exact wX9_isAcknowledged_L91 X hE hn fu   a0 a1 M8 h
      · have h := (if_neg hc).symm.trans h
        refine g_aload_n X (pc := 59) 1 rfl rfl dX9_isAcknowledged_59 ?_
        obtain ⟨v10, ev10, h⟩ := bd h
        refine g_getR X (pc := 60) fk_1_17 rfl rfl ev10 tb_997 dX9_isAcknowledged_60 ?_
        refine g_aload_n X (pc := 63) 1 rfl rfl dX9_isAcknowledged_63 ?_
        obtain ⟨v11, ev11, h⟩ := bd h
        refine g_getI X (pc := 64) fk_1_6 rfl rfl ev11 tb_973 dX9_isAcknowledged_64 ?_
        refine g_aload_n X (pc := 67) 1 rfl rfl dX9_isAcknowledged_67 ?_
        obtain ⟨v12, ev12, h⟩ := bd h
        refine g_getI X (pc := 68) fk_1_4 rfl rfl ev12 tb_968 dX9_isAcknowledged_68 ?_
        refine g_isub X (pc := 71) dX9_isAcknowledged_71 ?_
        obtain ⟨q13, eq13, h⟩ := bd h
        obtain ⟨v15, M14, eM14, h⟩ := b2d h
        refine g_callV X (pc := 72) (M' := M14) (ro := some (pI v15)) (c := 5) rfl (by decide) (as := [pI (v11 - v12)]) (as' := [pI (v11 - v12)]) (st := []) eq13 (ctX5_countDuplicate _ _ _ _ _ _ fu q13 (v11 - v12) M8 _ eM14) tb_1121 tb_1118 tb_1119 tb_1120 tb_20 ⟨rfl, hyX5_countDuplicate⟩ rfl rfl ⟨by decide, by decide⟩ (Nat.le_of_ble_eq_true rfl) dX9_isAcknowledged_72 ?_
        refine g_if_eq X (pc := 75) (tgt := 91) dX9_isAcknowledged_75 (by decide) (fun hc => ?_) (fun hc => ?_)
        · have h := (if_pos hc).symm.trans h
          exact wX9_isAcknowledged_L91 X hE hn fu   a0 a1 M14 h
        · have h := (if_neg hc).symm.trans h
          refine g_aload_n X (pc := 78) 0 rfl rfl dX9_isAcknowledged_78 ?_
          refine g_aload_n X (pc := 79) 1 rfl rfl dX9_isAcknowledged_79 ?_
          refine g_aload_n X (pc := 80) 1 rfl rfl dX9_isAcknowledged_80 ?_
          obtain ⟨v16, ev16, h⟩ := bd h
          refine g_getI X (pc := 81) fk_1_4 rfl rfl ev16 tb_968 dX9_isAcknowledged_81 ?_
          refine g_aload_n X (pc := 84) 1 rfl rfl dX9_isAcknowledged_84 ?_
          obtain ⟨q17, eq17, h⟩ := bd h
          obtain ⟨v19, M18, eM18, h⟩ := b2d h
          refine g_callV X (pc := 85) (M' := M18) (ro := some (pI v19)) (c := 1) rfl (by decide) (as := []) (as' := []) (st := [pI v16, pR a1, pR (some a0)]) eq17 (ctX1_goesAgain _ _ _ _ _ _ fu q17  M14 _ eM18) tb_1126 tb_1123 tb_1124 tb_1125 tb_18 ⟨rfl, hyX1_goesAgain⟩ rfl rfl ⟨by decide, by decide⟩ (Nat.le_of_ble_eq_true rfl) dX9_isAcknowledged_85 ?_
          obtain ⟨q20, eq20, h⟩ := bd h
          obtain ⟨M21, eM21, h⟩ := bd h
          refine g_callV X (pc := 88) (M' := M21) (ro := none) (c := 9) rfl (by decide) (as := [pR a1, pI v16, pI v19]) (as' := [pI v19, pI v16, pR a1]) (st := []) eq20 (ctX9_sendPart _ _ _ _ _ _ fu q20 a1 v16 v19 M18 _ eM21) tb_676 tb_673 tb_675 ts_20 tb_6 ⟨rfl, hyX9_sendPart⟩ rfl rfl ⟨by decide, by decide⟩ (Nat.le_of_ble_eq_true rfl) dX9_isAcknowledged_88 ?_
          exact wX9_isAcknowledged_L91 X hE hn fu   a0 a1 M21 h
    · have h := (if_neg hc).symm.trans h
      refine g_aload_n X (pc := 43) 0 rfl rfl dX9_isAcknowledged_43 ?_
      refine g_aload_n X (pc := 44) 1 rfl rfl dX9_isAcknowledged_44 ?_
      obtain ⟨q22, eq22, h⟩ := bd h
      obtain ⟨M23, eM23, h⟩ := bd h
      refine g_callV X (pc := 45) (M' := M23) (ro := none) (c := 9) rfl (by decide) (as := [pR a1]) (as' := [pR a1]) (st := []) eq22 (ctX9_takeNew _ _ _ _ _ _ fu q22 a1 M _ eM23) tb_1094 tb_1091 tb_1093 ts_34 tb_6 ⟨rfl, hyX9_takeNew⟩ rfl rfl ⟨by decide, by decide⟩ (Nat.le_of_ble_eq_true rfl) dX9_isAcknowledged_45 ?_
      refine g_goto X (pc := 48) (tgt := 91) dX9_isAcknowledged_48 (by decide) ?_
      exact wX9_isAcknowledged_L91 X hE hn fu   a0 a1 M23 h
  · have h := (if_neg hc).symm.trans h
    refine g_aload_n X (pc := 15) 0 rfl rfl dX9_isAcknowledged_15 ?_
    refine g_aload_n X (pc := 16) 1 rfl rfl dX9_isAcknowledged_16 ?_
    refine g_aload_n X (pc := 17) 1 rfl rfl dX9_isAcknowledged_17 ?_
    obtain ⟨v24, ev24, h⟩ := bd h
    refine g_getI X (pc := 18) fk_1_5 rfl rfl ev24 tb_970 dX9_isAcknowledged_18 ?_
    refine g_bipush X (pc := 21) (v := 16) dX9_isAcknowledged_21 (by decide) ?_
    obtain ⟨q25, eq25, h⟩ := bd h
    obtain ⟨M26, eM26, h⟩ := bd h
    refine g_callV X (pc := 23) (M' := M26) (ro := none) (c := 9) rfl (by decide) (as := [pR a1, pI v24, pI (16 : Int32)]) (as' := [pI (16 : Int32), pI v24, pR a1]) (st := []) eq25 (ctX9_sendPlain _ _ _ _ _ _ fu q25 a1 v24 (16 : Int32) M _ eM26) tb_589 tb_586 tb_588 ts_11 tb_6 ⟨rfl, hyX9_sendPlain⟩ rfl rfl ⟨by decide, by decide⟩ (Nat.le_of_ble_eq_true rfl) dX9_isAcknowledged_23 ?_
    refine g_iconst X (pc := 26) (v := 0) dX9_isAcknowledged_26 (by decide) ?_
    obtain ⟨hz, rfl⟩ := rN_some h
    exact g_nreturn X rfl hz hE dX9_isAcknowledged_27
theorem hyX9_isAcknowledged : yX9_isAcknowledged.cls ≠ "java/lang/invoke/MethodHandle" ∧ yX9_isAcknowledged.cls ≠ "java/lang/invoke/VarHandle" ∧ (parseMethodDescriptor yX9_isAcknowledged.desc).map (fun d => d.parameters.length) = some 1 := ⟨by decide +kernel, by decide +kernel, by decide +kernel⟩
theorem ctX9_isAcknowledged (l : Launch) (E : Nat → Nat) (D : va_G) (dA : Nat → ClassId) (lo : Nat) (H0 : Heap) (fu : Nat) (a0 : Nat) (a1 : Option Nat) (M : Mm) (out : Int32 × Mm) (h : fX9_isAcknowledged fu a0 a1 M = some out) : Ct l E D dA lo H0 yX9_isAcknowledged cX9_isAcknowledged 2 (some .boolean) 5 117 [pR (some a0), pR a1] M (some (pI out.1)) out.2 := by
  refine ct_of (by decide +kernel) (Nat.le_of_ble_eq_true rfl) ?_
  intro x hl he hd ha ho hh hn hin X hE
  exact wX9_isAcknowledged X hE hn fu a0 a1 M h
/-! WebHost$Tcp.takeData(LWebHost$Connection;)V -/
def fX9_takeData_L45 (fu : Nat)  (a0 : Nat) (a1 : Option Nat)  (M : Mm) : Option (Mm) :=
    (gR M 1 80 a1).bind fun v1 =>
    (gR M 9 579 (some a0)).bind fun v2 =>
    (rc M 0 v1).bind fun q3 =>
    b2 (fX0_take fu q3 v2 M) fun v5 M4 =>
    if v5 = 0 then (
    some M4)
    else (
    (gR M4 9 576 (some a0)).bind fun v6 =>
    (gI M4 10 641 v6).bind fun v7 =>
    (rc M4 1 a1).bind fun q8 =>
    (fX1_otherSideEnds fu q8 v7 M4).bind fun M9 =>
    some M9)
def fX9_takeData_L24 (fu : Nat)  (a0 : Nat) (a1 : Option Nat)  (M : Mm) : Option (Mm) :=
    (gR M 9 579 (some a0)).bind fun v1 =>
    (gI M 3 201 v1).bind fun v2 =>
    if v2 ≤ 0 then (
    fX9_takeData_L45 fu  a0 a1 M)
    else (
    (gR M 9 576 (some a0)).bind fun v3 =>
    (gI M 10 641 v3).bind fun v4 =>
    (pF M 1 73 a1 v4).bind fun M5 =>
    fX9_takeData_L45 fu  a0 a1 M5)
def fX9_takeData (fu : Nat)  (a0 : Nat) (a1 : Option Nat)  (M : Mm) : Option (Mm) :=
    (gI M 1 64 a1).bind fun v1 =>
    if v1 = (2 : Int32) then (
    fX9_takeData_L24 fu  a0 a1 M)
    else (
    (gI M 1 64 a1).bind fun v2 =>
    if v2 = (3 : Int32) then (
    fX9_takeData_L24 fu  a0 a1 M)
    else (
    (gI M 1 64 a1).bind fun v3 =>
    if v3 = (4 : Int32) then (
    fX9_takeData_L24 fu  a0 a1 M)
    else (
    (gI M 1 64 a1).bind fun v4 =>
    if v4 = (6 : Int32) then (
    (gR M 9 579 (some a0)).bind fun v5 =>
    (rc M 3 v5).bind fun q6 =>
    b2 (fX3_has fu q6 (1 : Int32) M) fun v8 M7 =>
    if v8 = 0 then (
    some M7)
    else (
    (gR M7 9 576 (some a0)).bind fun v9 =>
    (gI M7 10 641 v9).bind fun v10 =>
    (rc M7 1 a1).bind fun q11 =>
    (fX1_linger fu q11 v10 M7).bind fun M12 =>
    some M12))
    else (
    some M))))
theorem dX9_takeData_0 : decode cX9_takeData 0 = .ok (.aload_n 1, 1) := by decide +kernel
theorem dX9_takeData_1 : decode cX9_takeData 1 = .ok (.getfield 36, 3) := by decide +kernel
theorem dX9_takeData_4 : decode cX9_takeData 4 = .ok (.iconst 2, 1) := by decide +kernel
theorem dX9_takeData_5 : decode cX9_takeData 5 = .ok (.if_icmp .eq 19, 3) := by decide +kernel
theorem dX9_takeData_8 : decode cX9_takeData 8 = .ok (.aload_n 1, 1) := by decide +kernel
theorem dX9_takeData_9 : decode cX9_takeData 9 = .ok (.getfield 36, 3) := by decide +kernel
theorem dX9_takeData_12 : decode cX9_takeData 12 = .ok (.iconst 3, 1) := by decide +kernel
theorem dX9_takeData_13 : decode cX9_takeData 13 = .ok (.if_icmp .eq 11, 3) := by decide +kernel
theorem dX9_takeData_16 : decode cX9_takeData 16 = .ok (.aload_n 1, 1) := by decide +kernel
theorem dX9_takeData_17 : decode cX9_takeData 17 = .ok (.getfield 36, 3) := by decide +kernel
theorem dX9_takeData_20 : decode cX9_takeData 20 = .ok (.iconst 4, 1) := by decide +kernel
theorem dX9_takeData_21 : decode cX9_takeData 21 = .ok (.if_icmp .ne 52, 3) := by decide +kernel
theorem dX9_takeData_24 : decode cX9_takeData 24 = .ok (.aload_n 0, 1) := by decide +kernel
theorem dX9_takeData_25 : decode cX9_takeData 25 = .ok (.getfield 23, 3) := by decide +kernel
theorem dX9_takeData_28 : decode cX9_takeData 28 = .ok (.getfield 169, 3) := by decide +kernel
theorem dX9_takeData_31 : decode cX9_takeData 31 = .ok (.ifCond .le 14, 3) := by decide +kernel
theorem dX9_takeData_34 : decode cX9_takeData 34 = .ok (.aload_n 1, 1) := by decide +kernel
theorem dX9_takeData_35 : decode cX9_takeData 35 = .ok (.aload_n 0, 1) := by decide +kernel
theorem dX9_takeData_36 : decode cX9_takeData 36 = .ok (.getfield 9, 3) := by decide +kernel
theorem dX9_takeData_39 : decode cX9_takeData 39 = .ok (.getfield 147, 3) := by decide +kernel
theorem dX9_takeData_42 : decode cX9_takeData 42 = .ok (.putfield 172, 3) := by decide +kernel
theorem dX9_takeData_45 : decode cX9_takeData 45 = .ok (.aload_n 1, 1) := by decide +kernel
theorem dX9_takeData_46 : decode cX9_takeData 46 = .ok (.getfield 75, 3) := by decide +kernel
theorem dX9_takeData_49 : decode cX9_takeData 49 = .ok (.aload_n 0, 1) := by decide +kernel
theorem dX9_takeData_50 : decode cX9_takeData 50 = .ok (.getfield 23, 3) := by decide +kernel
theorem dX9_takeData_53 : decode cX9_takeData 53 = .ok (.invokevirtual 175, 3) := by decide +kernel
theorem dX9_takeData_56 : decode cX9_takeData 56 = .ok (.ifCond .eq 48, 3) := by decide +kernel
theorem dX9_takeData_59 : decode cX9_takeData 59 = .ok (.aload_n 1, 1) := by decide +kernel
theorem dX9_takeData_60 : decode cX9_takeData 60 = .ok (.aload_n 0, 1) := by decide +kernel
theorem dX9_takeData_61 : decode cX9_takeData 61 = .ok (.getfield 9, 3) := by decide +kernel
theorem dX9_takeData_64 : decode cX9_takeData 64 = .ok (.getfield 147, 3) := by decide +kernel
theorem dX9_takeData_67 : decode cX9_takeData 67 = .ok (.invokevirtual 178, 3) := by decide +kernel
theorem dX9_takeData_70 : decode cX9_takeData 70 = .ok (.goto 34, 3) := by decide +kernel
theorem dX9_takeData_73 : decode cX9_takeData 73 = .ok (.aload_n 1, 1) := by decide +kernel
theorem dX9_takeData_74 : decode cX9_takeData 74 = .ok (.getfield 36, 3) := by decide +kernel
theorem dX9_takeData_77 : decode cX9_takeData 77 = .ok (.bipush 6, 2) := by decide +kernel
theorem dX9_takeData_79 : decode cX9_takeData 79 = .ok (.if_icmp .ne 25, 3) := by decide +kernel
theorem dX9_takeData_82 : decode cX9_takeData 82 = .ok (.aload_n 0, 1) := by decide +kernel
theorem dX9_takeData_83 : decode cX9_takeData 83 = .ok (.getfield 23, 3) := by decide +kernel
theorem dX9_takeData_86 : decode cX9_takeData 86 = .ok (.iconst 1, 1) := by decide +kernel
theorem dX9_takeData_87 : decode cX9_takeData 87 = .ok (.invokevirtual 89, 3) := by decide +kernel
theorem dX9_takeData_90 : decode cX9_takeData 90 = .ok (.ifCond .eq 14, 3) := by decide +kernel
theorem dX9_takeData_93 : decode cX9_takeData 93 = .ok (.aload_n 1, 1) := by decide +kernel
theorem dX9_takeData_94 : decode cX9_takeData 94 = .ok (.aload_n 0, 1) := by decide +kernel
theorem dX9_takeData_95 : decode cX9_takeData 95 = .ok (.getfield 9, 3) := by decide +kernel
theorem dX9_takeData_98 : decode cX9_takeData 98 = .ok (.getfield 147, 3) := by decide +kernel
theorem dX9_takeData_101 : decode cX9_takeData 101 = .ok (.invokevirtual 165, 3) := by decide +kernel
theorem dX9_takeData_104 : decode cX9_takeData 104 = .ok (.return_, 1) := by decide +kernel
theorem wX9_takeData_L45 {x : GX} {n0 sl0 : Nat} (X : Cx x cX9_takeData RX9 none n0 sl0 4 89) {out : Mm} (hE : Ends x n0 sl0 none out) (hn : xn x = 2) (fu : Nat)   (a0 : Nat) (a1 : Option Nat)  (M : Mm) (h : fX9_takeData_L45 fu  a0 a1 M = some out) : Gw x M 45 [(0, pR (some a0)), (1, pR a1)] [] := by
  unfold fX9_takeData_L45 at h
  refine g_aload_n X (pc := 45) 1 rfl rfl dX9_takeData_45 ?_
  obtain ⟨v1, ev1, h⟩ := bd h
  refine g_getR X (pc := 46) fk_1_16 rfl rfl ev1 tb_995 dX9_takeData_46 ?_
  refine g_aload_n X (pc := 49) 0 rfl rfl dX9_takeData_49 ?_
  obtain ⟨v2, ev2, h⟩ := bd h
  refine g_getR X (pc := 50) fk_9_3 rfl rfl ev2 tb_237 dX9_takeData_50 ?_
  obtain ⟨q3, eq3, h⟩ := bd h
  obtain ⟨v5, M4, eM4, h⟩ := b2d h
  refine g_callV X (pc := 53) (M' := M4) (ro := some (pI v5)) (c := 0) rfl (by decide) (as := [pR v2]) (as' := [pR v2]) (st := []) eq3 (ctX0_take _ _ _ _ _ _ fu q3 v2 M _ eM4) tb_1143 tb_1140 tb_1141 tb_1142 tb_19 ⟨rfl, hyX0_take⟩ rfl rfl ⟨by decide, by decide⟩ (Nat.le_of_ble_eq_true rfl) dX9_takeData_53 ?_
  refine g_if_eq X (pc := 56) (tgt := 104) dX9_takeData_56 (by decide) (fun hc => ?_) (fun hc => ?_)
  · have h := (if_pos hc).symm.trans h
    obtain rfl := Option.some.inj h
    exact g_return X hE dX9_takeData_104
  · have h := (if_neg hc).symm.trans h
    refine g_aload_n X (pc := 59) 1 rfl rfl dX9_takeData_59 ?_
    refine g_aload_n X (pc := 60) 0 rfl rfl dX9_takeData_60 ?_
    obtain ⟨v6, ev6, h⟩ := bd h
    refine g_getR X (pc := 61) fk_9_0 rfl rfl ev6 tb_234 dX9_takeData_61 ?_
    obtain ⟨v7, ev7, h⟩ := bd h
    refine g_getI X (pc := 64) fk_10_1 rfl rfl ev7 tb_71 dX9_takeData_64 ?_
    obtain ⟨q8, eq8, h⟩ := bd h
    obtain ⟨M9, eM9, h⟩ := bd h
    refine g_callV X (pc := 67) (M' := M9) (ro := none) (c := 1) rfl (by decide) (as := [pI v7]) (as' := [pI v7]) (st := []) eq8 (ctX1_otherSideEnds _ _ _ _ _ _ fu q8 v7 M4 _ eM9) tb_1157 tb_1154 tb_1155 tb_1156 tb_18 ⟨rfl, hyX1_otherSideEnds⟩ rfl rfl ⟨by decide, by decide⟩ (Nat.le_of_ble_eq_true rfl) dX9_takeData_67 ?_
    refine g_goto X (pc := 70) (tgt := 104) dX9_takeData_70 (by decide) ?_
    obtain rfl := Option.some.inj h
    exact g_return X hE dX9_takeData_104
theorem wX9_takeData_L24 {x : GX} {n0 sl0 : Nat} (X : Cx x cX9_takeData RX9 none n0 sl0 4 89) {out : Mm} (hE : Ends x n0 sl0 none out) (hn : xn x = 2) (fu : Nat)   (a0 : Nat) (a1 : Option Nat)  (M : Mm) (h : fX9_takeData_L24 fu  a0 a1 M = some out) : Gw x M 24 [(0, pR (some a0)), (1, pR a1)] [] := by
  unfold fX9_takeData_L24 at h
  refine g_aload_n X (pc := 24) 0 rfl rfl dX9_takeData_24 ?_
  obtain ⟨v1, ev1, h⟩ := bd h
  refine g_getR X (pc := 25) fk_9_3 rfl rfl ev1 tb_237 dX9_takeData_25 ?_
  obtain ⟨v2, ev2, h⟩ := bd h
  refine g_getI X (pc := 28) fk_3_9 rfl rfl ev2 tb_183 dX9_takeData_28 ?_
  refine g_if_le X (pc := 31) (tgt := 45) dX9_takeData_31 (by decide) (fun hc => ?_) (fun hc => ?_)
  · have h := (if_pos hc).symm.trans h
    exact wX9_takeData_L45 X hE hn fu   a0 a1 M h
  · have h := (if_neg hc).symm.trans h
    refine g_aload_n X (pc := 34) 1 rfl rfl dX9_takeData_34 ?_
    refine g_aload_n X (pc := 35) 0 rfl rfl dX9_takeData_35 ?_
    obtain ⟨v3, ev3, h⟩ := bd h
    refine g_getR X (pc := 36) fk_9_0 rfl rfl ev3 tb_234 dX9_takeData_36 ?_
    obtain ⟨v4, ev4, h⟩ := bd h
    refine g_getI X (pc := 39) fk_10_1 rfl rfl ev4 tb_71 dX9_takeData_39 ?_
    obtain ⟨M5, eM5, h⟩ := bd h
    refine g_putI X (pc := 42) fk_1_9 rfl rfl rfl eM5 tb_977 (Or.inl rfl) dX9_takeData_42 ?_
    exact wX9_takeData_L45 X hE hn fu   a0 a1 M5 h
theorem wX9_takeData {x : GX} {n0 sl0 : Nat} (X : Cx x cX9_takeData RX9 none n0 sl0 4 89) {out : Mm} (hE : Ends x n0 sl0 none out) (hn : xn x = 2) (fu : Nat)   (a0 : Nat) (a1 : Option Nat)  (M : Mm) (h : fX9_takeData fu  a0 a1 M = some out) : Gw x M 0 [(0, pR (some a0)), (1, pR a1)] [] := by
  unfold fX9_takeData at h
  refine g_aload_n X (pc := 0) 1 rfl rfl dX9_takeData_0 ?_
  obtain ⟨v1, ev1, h⟩ := bd h
  refine g_getI X (pc := 1) fk_1_0 rfl rfl ev1 tb_959 dX9_takeData_1 ?_
  refine g_iconst X (pc := 4) (v := 2) dX9_takeData_4 (by decide) ?_
  refine g_icmp_eq X (pc := 5) (tgt := 24) dX9_takeData_5 (by decide) (fun hc => ?_) (fun hc => ?_)
  · have h := (if_pos hc).symm.trans h
    exact wX9_takeData_L24 X hE hn fu   a0 a1 M h
  · have h := (if_neg hc).symm.trans h
    refine g_aload_n X (pc := 8) 1 rfl rfl dX9_takeData_8 ?_
    obtain ⟨v2, ev2, h⟩ := bd h
    refine g_getI X (pc := 9) fk_1_0 rfl rfl ev2 tb_959 dX9_takeData_9 ?_
    refine g_iconst X (pc := 12) (v := 3) dX9_takeData_12 (by decide) ?_
    refine g_icmp_eq X (pc := 13) (tgt := 24) dX9_takeData_13 (by decide) (fun hc => ?_) (fun hc => ?_)
    · have h := (if_pos hc).symm.trans h
      exact wX9_takeData_L24 X hE hn fu   a0 a1 M h
    · have h := (if_neg hc).symm.trans h
      refine g_aload_n X (pc := 16) 1 rfl rfl dX9_takeData_16 ?_
      obtain ⟨v3, ev3, h⟩ := bd h
      refine g_getI X (pc := 17) fk_1_0 rfl rfl ev3 tb_959 dX9_takeData_17 ?_
      refine g_iconst X (pc := 20) (v := 4) dX9_takeData_20 (by decide) ?_
      refine g_icmp_ne X (pc := 21) (tgt := 73) dX9_takeData_21 (by decide) (fun hc => ?_) (fun hc => ?_)
      · have h := (if_neg hc).symm.trans h
        refine g_aload_n X (pc := 73) 1 rfl rfl dX9_takeData_73 ?_
        obtain ⟨v4, ev4, h⟩ := bd h
        refine g_getI X (pc := 74) fk_1_0 rfl rfl ev4 tb_959 dX9_takeData_74 ?_
        refine g_bipush X (pc := 77) (v := 6) dX9_takeData_77 (by decide) ?_
        refine g_icmp_ne X (pc := 79) (tgt := 104) dX9_takeData_79 (by decide) (fun hc => ?_) (fun hc => ?_)
        · have h := (if_neg hc).symm.trans h
          obtain rfl := Option.some.inj h
          exact g_return X hE dX9_takeData_104
        · have h := (if_pos hc).symm.trans h
          refine g_aload_n X (pc := 82) 0 rfl rfl dX9_takeData_82 ?_
          obtain ⟨v5, ev5, h⟩ := bd h
          refine g_getR X (pc := 83) fk_9_3 rfl rfl ev5 tb_237 dX9_takeData_83 ?_
          refine g_iconst X (pc := 86) (v := 1) dX9_takeData_86 (by decide) ?_
          obtain ⟨q6, eq6, h⟩ := bd h
          obtain ⟨v8, M7, eM7, h⟩ := b2d h
          refine g_callV X (pc := 87) (M' := M7) (ro := some (pI v8)) (c := 3) rfl (by decide) (as := [pI (1 : Int32)]) (as' := [pI (1 : Int32)]) (st := []) eq6 (ctX3_has _ _ _ _ _ _ fu q6 (1 : Int32) M _ eM7) tb_835 tb_832 tb_833 tb_834 tb_5 ⟨rfl, hyX3_has⟩ rfl rfl ⟨by decide, by decide⟩ (Nat.le_of_ble_eq_true rfl) dX9_takeData_87 ?_
          refine g_if_eq X (pc := 90) (tgt := 104) dX9_takeData_90 (by decide) (fun hc => ?_) (fun hc => ?_)
          · have h := (if_pos hc).symm.trans h
            obtain rfl := Option.some.inj h
            exact g_return X hE dX9_takeData_104
          · have h := (if_neg hc).symm.trans h
            refine g_aload_n X (pc := 93) 1 rfl rfl dX9_takeData_93 ?_
            refine g_aload_n X (pc := 94) 0 rfl rfl dX9_takeData_94 ?_
            obtain ⟨v9, ev9, h⟩ := bd h
            refine g_getR X (pc := 95) fk_9_0 rfl rfl ev9 tb_234 dX9_takeData_95 ?_
            obtain ⟨v10, ev10, h⟩ := bd h
            refine g_getI X (pc := 98) fk_10_1 rfl rfl ev10 tb_71 dX9_takeData_98 ?_
            obtain ⟨q11, eq11, h⟩ := bd h
            obtain ⟨M12, eM12, h⟩ := bd h
            refine g_callV X (pc := 101) (M' := M12) (ro := none) (c := 1) rfl (by decide) (as := [pI v10]) (as' := [pI v10]) (st := []) eq11 (ctX1_linger _ _ _ _ _ _ fu q11 v10 M7 _ eM12) tb_1085 tb_1082 tb_1083 tb_1084 tb_18 ⟨rfl, hyX1_linger⟩ rfl rfl ⟨by decide, by decide⟩ (Nat.le_of_ble_eq_true rfl) dX9_takeData_101 ?_
            obtain rfl := Option.some.inj h
            exact g_return X hE dX9_takeData_104
      · have h := (if_pos hc).symm.trans h
        exact wX9_takeData_L24 X hE hn fu   a0 a1 M h
theorem hyX9_takeData : yX9_takeData.cls ≠ "java/lang/invoke/MethodHandle" ∧ yX9_takeData.cls ≠ "java/lang/invoke/VarHandle" ∧ (parseMethodDescriptor yX9_takeData.desc).map (fun d => d.parameters.length) = some 1 := ⟨by decide +kernel, by decide +kernel, by decide +kernel⟩
theorem ctX9_takeData (l : Launch) (E : Nat → Nat) (D : va_G) (dA : Nat → ClassId) (lo : Nat) (H0 : Heap) (fu : Nat) (a0 : Nat) (a1 : Option Nat) (M : Mm) (out : Mm) (h : fX9_takeData fu a0 a1 M = some out) : Ct l E D dA lo H0 yX9_takeData cX9_takeData 2 none 4 89 [pR (some a0), pR a1] M none out := by
  refine ct_of (by decide +kernel) (Nat.le_of_ble_eq_true rfl) ?_
  intro x hl he hd ha ho hh hn hin X hE
  exact wX9_takeData X hE hn fu a0 a1 M h
/-! WebHost$Tcp.take()LWebHost$Connection; -/
def fX9_take_L117 (fu : Nat)  (a0 : Nat) (a1 : Option Nat)  (M : Mm) : Option (Option Nat × Mm) :=
    (rc M 9 (some a0)).bind fun q1 =>
    (fX9_takeData fu q1 a1 M).bind fun M2 =>
    some (a1, M2)
def fX9_take (fu : Nat)  (a0 : Nat)  (M : Mm) : Option (Option Nat × Mm) :=
    (rc M 9 (some a0)).bind fun q1 =>
    b2 (fX9_connectionOfSegment fu q1  M) fun v3 M2 =>
    if v3 = none then (
    (rc M2 9 (some a0)).bind fun q36 =>
    (fX9_takeWithoutConnection fu q36  M2).bind fun M37 =>
    some (none, M37))
    else (
    (gR M2 1 80 v3).bind fun v4 =>
    (gR M2 9 579 (some a0)).bind fun v5 =>
    (rc M2 0 v4).bind fun q6 =>
    b2 (fX0_accepts fu q6 v5 M2) fun v8 M7 =>
    if v8 = 0 then (
    (rc M7 9 (some a0)).bind fun q34 =>
    (fX9_refuse fu q34 v3 M7).bind fun M35 =>
    some (none, M35))
    else (
    (gR M7 9 579 (some a0)).bind fun v9 =>
    (rc M7 3 v9).bind fun q10 =>
    b2 (fX3_has fu q10 (4 : Int32) M7) fun v12 M11 =>
    if v12 = 0 then (
    (gR M11 9 579 (some a0)).bind fun v13 =>
    (rc M11 3 v13).bind fun q14 =>
    b2 (fX3_has fu q14 (2 : Int32) M11) fun v16 M15 =>
    if v16 = 0 then (
    (gR M15 9 579 (some a0)).bind fun v17 =>
    (rc M15 3 v17).bind fun q18 =>
    b2 (fX3_has fu q18 (16 : Int32) M15) fun v20 M19 =>
    if v20 = 0 then (
    some (none, M19))
    else (
    (gI M19 1 64 v3).bind fun v21 =>
    if v21 = (1 : Int32) then (
    (rc M19 9 (some a0)).bind fun q25 =>
    b2 (fX9_isOpened fu q25 v3 M19) fun v27 M26 =>
    if v27 = 0 then (
    some (none, M26))
    else (
    fX9_take_L117 fu  a0 v3 M26))
    else (
    (rc M19 9 (some a0)).bind fun q22 =>
    b2 (fX9_isAcknowledged fu q22 v3 M19) fun v24 M23 =>
    if v24 = 0 then (
    some (none, M23))
    else (
    fX9_take_L117 fu  a0 v3 M23))))
    else (
    (rc M15 9 (some a0)).bind fun q28 =>
    (fX9_reset fu q28  M15).bind fun M29 =>
    (rc M29 1 v3).bind fun q30 =>
    (fX1_leave fu q30  M29).bind fun M31 =>
    some (none, M31)))
    else (
    (rc M11 1 v3).bind fun q32 =>
    (fX1_leave fu q32  M11).bind fun M33 =>
    some (none, M33))))
theorem dX9_take_0 : decode cX9_take 0 = .ok (.aload_n 0, 1) := by decide +kernel
theorem dX9_take_1 : decode cX9_take 1 = .ok (.invokevirtual 68, 3) := by decide +kernel
theorem dX9_take_4 : decode cX9_take 4 = .ok (.astore_n 1, 1) := by decide +kernel
theorem dX9_take_5 : decode cX9_take 5 = .ok (.aload_n 1, 1) := by decide +kernel
theorem dX9_take_6 : decode cX9_take 6 = .ok (.ifnonnull 10, 3) := by decide +kernel
theorem dX9_take_9 : decode cX9_take 9 = .ok (.aload_n 0, 1) := by decide +kernel
theorem dX9_take_10 : decode cX9_take 10 = .ok (.invokevirtual 72, 3) := by decide +kernel
theorem dX9_take_13 : decode cX9_take 13 = .ok (.goto 111, 3) := by decide +kernel
theorem dX9_take_16 : decode cX9_take 16 = .ok (.aload_n 1, 1) := by decide +kernel
theorem dX9_take_17 : decode cX9_take 17 = .ok (.getfield 75, 3) := by decide +kernel
theorem dX9_take_20 : decode cX9_take 20 = .ok (.aload_n 0, 1) := by decide +kernel
theorem dX9_take_21 : decode cX9_take 21 = .ok (.getfield 23, 3) := by decide +kernel
theorem dX9_take_24 : decode cX9_take 24 = .ok (.invokevirtual 79, 3) := by decide +kernel
theorem dX9_take_27 : decode cX9_take 27 = .ok (.ifCond .ne 11, 3) := by decide +kernel
theorem dX9_take_30 : decode cX9_take 30 = .ok (.aload_n 0, 1) := by decide +kernel
theorem dX9_take_31 : decode cX9_take 31 = .ok (.aload_n 1, 1) := by decide +kernel
theorem dX9_take_32 : decode cX9_take 32 = .ok (.invokevirtual 85, 3) := by decide +kernel
theorem dX9_take_35 : decode cX9_take 35 = .ok (.goto 89, 3) := by decide +kernel
theorem dX9_take_38 : decode cX9_take 38 = .ok (.aload_n 0, 1) := by decide +kernel
theorem dX9_take_39 : decode cX9_take 39 = .ok (.getfield 23, 3) := by decide +kernel
theorem dX9_take_42 : decode cX9_take 42 = .ok (.iconst 4, 1) := by decide +kernel
theorem dX9_take_43 : decode cX9_take 43 = .ok (.invokevirtual 89, 3) := by decide +kernel
theorem dX9_take_46 : decode cX9_take 46 = .ok (.ifCond .eq 10, 3) := by decide +kernel
theorem dX9_take_49 : decode cX9_take 49 = .ok (.aload_n 1, 1) := by decide +kernel
theorem dX9_take_50 : decode cX9_take 50 = .ok (.invokevirtual 33, 3) := by decide +kernel
theorem dX9_take_53 : decode cX9_take 53 = .ok (.goto 71, 3) := by decide +kernel
theorem dX9_take_56 : decode cX9_take 56 = .ok (.aload_n 0, 1) := by decide +kernel
theorem dX9_take_57 : decode cX9_take 57 = .ok (.getfield 23, 3) := by decide +kernel
theorem dX9_take_60 : decode cX9_take 60 = .ok (.iconst 2, 1) := by decide +kernel
theorem dX9_take_61 : decode cX9_take 61 = .ok (.invokevirtual 89, 3) := by decide +kernel
theorem dX9_take_64 : decode cX9_take 64 = .ok (.ifCond .eq 14, 3) := by decide +kernel
theorem dX9_take_67 : decode cX9_take 67 = .ok (.aload_n 0, 1) := by decide +kernel
theorem dX9_take_68 : decode cX9_take 68 = .ok (.invokevirtual 95, 3) := by decide +kernel
theorem dX9_take_71 : decode cX9_take 71 = .ok (.aload_n 1, 1) := by decide +kernel
theorem dX9_take_72 : decode cX9_take 72 = .ok (.invokevirtual 33, 3) := by decide +kernel
theorem dX9_take_75 : decode cX9_take 75 = .ok (.goto 49, 3) := by decide +kernel
theorem dX9_take_78 : decode cX9_take 78 = .ok (.aload_n 0, 1) := by decide +kernel
theorem dX9_take_79 : decode cX9_take 79 = .ok (.getfield 23, 3) := by decide +kernel
theorem dX9_take_82 : decode cX9_take 82 = .ok (.bipush 16, 2) := by decide +kernel
theorem dX9_take_84 : decode cX9_take 84 = .ok (.invokevirtual 89, 3) := by decide +kernel
theorem dX9_take_87 : decode cX9_take 87 = .ok (.ifCond .eq 37, 3) := by decide +kernel
theorem dX9_take_90 : decode cX9_take 90 = .ok (.aload_n 1, 1) := by decide +kernel
theorem dX9_take_91 : decode cX9_take 91 = .ok (.getfield 36, 3) := by decide +kernel
theorem dX9_take_94 : decode cX9_take 94 = .ok (.iconst 1, 1) := by decide +kernel
theorem dX9_take_95 : decode cX9_take 95 = .ok (.if_icmp .ne 14, 3) := by decide +kernel
theorem dX9_take_98 : decode cX9_take 98 = .ok (.aload_n 0, 1) := by decide +kernel
theorem dX9_take_99 : decode cX9_take 99 = .ok (.aload_n 1, 1) := by decide +kernel
theorem dX9_take_100 : decode cX9_take 100 = .ok (.invokevirtual 98, 3) := by decide +kernel
theorem dX9_take_103 : decode cX9_take 103 = .ok (.ifCond .eq 21, 3) := by decide +kernel
theorem dX9_take_106 : decode cX9_take 106 = .ok (.goto 11, 3) := by decide +kernel
theorem dX9_take_109 : decode cX9_take 109 = .ok (.aload_n 0, 1) := by decide +kernel
theorem dX9_take_110 : decode cX9_take 110 = .ok (.aload_n 1, 1) := by decide +kernel
theorem dX9_take_111 : decode cX9_take 111 = .ok (.invokevirtual 102, 3) := by decide +kernel
theorem dX9_take_114 : decode cX9_take 114 = .ok (.ifCond .eq 10, 3) := by decide +kernel
theorem dX9_take_117 : decode cX9_take 117 = .ok (.aload_n 0, 1) := by decide +kernel
theorem dX9_take_118 : decode cX9_take 118 = .ok (.aload_n 1, 1) := by decide +kernel
theorem dX9_take_119 : decode cX9_take 119 = .ok (.invokevirtual 105, 3) := by decide +kernel
theorem dX9_take_122 : decode cX9_take 122 = .ok (.aload_n 1, 1) := by decide +kernel
theorem dX9_take_123 : decode cX9_take 123 = .ok (.areturn, 1) := by decide +kernel
theorem dX9_take_124 : decode cX9_take 124 = .ok (.aconst_null, 1) := by decide +kernel
theorem dX9_take_125 : decode cX9_take 125 = .ok (.areturn, 1) := by decide +kernel
theorem wX9_take_L117 {x : GX} {n0 sl0 : Nat} (X : Cx x cX9_take RX9 (some (.object "WebHost$Connection")) n0 sl0 6 138) {out : Option Nat × Mm} (hE : Ends x n0 sl0 (some (pR out.1)) out.2) (hn : xn x = 2) (fu : Nat)   (a0 : Nat) (a1 : Option Nat)  (M : Mm) (h : fX9_take_L117 fu  a0 a1 M = some out) : Gw x M 117 [(0, pR (some a0)), (1, pR a1)] [] := by
  unfold fX9_take_L117 at h
  refine g_aload_n X (pc := 117) 0 rfl rfl dX9_take_117 ?_
  refine g_aload_n X (pc := 118) 1 rfl rfl dX9_take_118 ?_
  obtain ⟨q1, eq1, h⟩ := bd h
  obtain ⟨M2, eM2, h⟩ := bd h
  refine g_callV X (pc := 119) (M' := M2) (ro := none) (c := 9) rfl (by decide) (as := [pR a1]) (as' := [pR a1]) (st := []) eq1 (ctX9_takeData _ _ _ _ _ _ fu q1 a1 M _ eM2) tb_1139 tb_1136 tb_1138 ts_37 tb_6 ⟨rfl, hyX9_takeData⟩ rfl rfl ⟨by decide, by decide⟩ (Nat.le_of_ble_eq_true rfl) dX9_take_119 ?_
  refine g_aload_n X (pc := 122) 1 rfl rfl dX9_take_122 ?_
  obtain rfl := Option.some.inj h
  exact g_areturn X rfl (Or.inl ⟨_, rfl⟩) hE dX9_take_123
theorem wX9_take {x : GX} {n0 sl0 : Nat} (X : Cx x cX9_take RX9 (some (.object "WebHost$Connection")) n0 sl0 6 138) {out : Option Nat × Mm} (hE : Ends x n0 sl0 (some (pR out.1)) out.2) (hn : xn x = 2) (fu : Nat)   (a0 : Nat)  (M : Mm) (h : fX9_take fu  a0 M = some out) : Gw x M 0 [(0, pR (some a0))] [] := by
  unfold fX9_take at h
  refine g_aload_n X (pc := 0) 0 rfl rfl dX9_take_0 ?_
  obtain ⟨q1, eq1, h⟩ := bd h
  obtain ⟨v3, M2, eM2, h⟩ := b2d h
  refine g_callV X (pc := 1) (M' := M2) (ro := some (pR v3)) (c := 9) rfl (by decide) (as := []) (as' := []) (st := []) eq1 (ctX9_connectionOfSegment _ _ _ _ _ _ fu q1  M _ eM2) tb_827 tb_824 tb_826 ts_28 tb_6 ⟨rfl, hyX9_connectionOfSegment⟩ rfl rfl ⟨by decide, by decide⟩ (Nat.le_of_ble_eq_true rfl) dX9_take_1 ?_
  refine g_astore_n X (pc := 4) [(1, pR v3), (0, pR (some a0))] rfl (lt_n hn (by decide)) rfl dX9_take_4 ?_
  refine g_aload_n X (pc := 5) 0 rfl rfl dX9_take_5 ?_
  refine g_ifnonnull X (pc := 6) (tgt := 16) dX9_take_6 (by decide) (fun hc => ?_) (fun hc => ?_)
  · have h := (if_neg hc).symm.trans h
    refine g_aload_n X (pc := 16) 0 rfl rfl dX9_take_16 ?_
    obtain ⟨v4, ev4, h⟩ := bd h
    refine g_getR X (pc := 17) fk_1_16 rfl rfl ev4 tb_995 dX9_take_17 ?_
    refine g_aload_n X (pc := 20) 1 rfl rfl dX9_take_20 ?_
    obtain ⟨v5, ev5, h⟩ := bd h
    refine g_getR X (pc := 21) fk_9_3 rfl rfl ev5 tb_237 dX9_take_21 ?_
    obtain ⟨q6, eq6, h⟩ := bd h
    obtain ⟨v8, M7, eM7, h⟩ := b2d h
    refine g_callV X (pc := 24) (M' := M7) (ro := some (pI v8)) (c := 0) rfl (by decide) (as := [pR v5]) (as' := [pR v5]) (st := []) eq6 (ctX0_accepts _ _ _ _ _ _ fu q6 v5 M2 _ eM7) tb_1071 tb_1068 tb_1069 tb_1070 tb_19 ⟨rfl, hyX0_accepts⟩ rfl rfl ⟨by decide, by decide⟩ (Nat.le_of_ble_eq_true rfl) dX9_take_24 ?_
    refine g_if_ne X (pc := 27) (tgt := 38) dX9_take_27 (by decide) (fun hc => ?_) (fun hc => ?_)
    · have h := (if_neg hc).symm.trans h
      refine g_aload_n X (pc := 38) 1 rfl rfl dX9_take_38 ?_
      obtain ⟨v9, ev9, h⟩ := bd h
      refine g_getR X (pc := 39) fk_9_3 rfl rfl ev9 tb_237 dX9_take_39 ?_
      refine g_iconst X (pc := 42) (v := 4) dX9_take_42 (by decide) ?_
      obtain ⟨q10, eq10, h⟩ := bd h
      obtain ⟨v12, M11, eM11, h⟩ := b2d h
      refine g_callV X (pc := 43) (M' := M11) (ro := some (pI v12)) (c := 3) rfl (by decide) (as := [pI (4 : Int32)]) (as' := [pI (4 : Int32)]) (st := []) eq10 (ctX3_has _ _ _ _ _ _ fu q10 (4 : Int32) M7 _ eM11) tb_835 tb_832 tb_833 tb_834 tb_5 ⟨rfl, hyX3_has⟩ rfl rfl ⟨by decide, by decide⟩ (Nat.le_of_ble_eq_true rfl) dX9_take_43 ?_
      refine g_if_eq X (pc := 46) (tgt := 56) dX9_take_46 (by decide) (fun hc => ?_) (fun hc => ?_)
      · have h := (if_pos hc).symm.trans h
        refine g_aload_n X (pc := 56) 1 rfl rfl dX9_take_56 ?_
        obtain ⟨v13, ev13, h⟩ := bd h
        refine g_getR X (pc := 57) fk_9_3 rfl rfl ev13 tb_237 dX9_take_57 ?_
        refine g_iconst X (pc := 60) (v := 2) dX9_take_60 (by decide) ?_
        obtain ⟨q14, eq14, h⟩ := bd h
        obtain ⟨v16, M15, eM15, h⟩ := b2d h
        refine g_callV X (pc := 61) (M' := M15) (ro := some (pI v16)) (c := 3) rfl (by decide) (as := [pI (2 : Int32)]) (as' := [pI (2 : Int32)]) (st := []) eq14 (ctX3_has _ _ _ _ _ _ fu q14 (2 : Int32) M11 _ eM15) tb_835 tb_832 tb_833 tb_834 tb_5 ⟨rfl, hyX3_has⟩ rfl rfl ⟨by decide, by decide⟩ (Nat.le_of_ble_eq_true rfl) dX9_take_61 ?_
        refine g_if_eq X (pc := 64) (tgt := 78) dX9_take_64 (by decide) (fun hc => ?_) (fun hc => ?_)
        · have h := (if_pos hc).symm.trans h
          refine g_aload_n X (pc := 78) 1 rfl rfl dX9_take_78 ?_
          obtain ⟨v17, ev17, h⟩ := bd h
          refine g_getR X (pc := 79) fk_9_3 rfl rfl ev17 tb_237 dX9_take_79 ?_
          refine g_bipush X (pc := 82) (v := 16) dX9_take_82 (by decide) ?_
          obtain ⟨q18, eq18, h⟩ := bd h
          obtain ⟨v20, M19, eM19, h⟩ := b2d h
          refine g_callV X (pc := 84) (M' := M19) (ro := some (pI v20)) (c := 3) rfl (by decide) (as := [pI (16 : Int32)]) (as' := [pI (16 : Int32)]) (st := []) eq18 (ctX3_has _ _ _ _ _ _ fu q18 (16 : Int32) M15 _ eM19) tb_835 tb_832 tb_833 tb_834 tb_5 ⟨rfl, hyX3_has⟩ rfl rfl ⟨by decide, by decide⟩ (Nat.le_of_ble_eq_true rfl) dX9_take_84 ?_
          refine g_if_eq X (pc := 87) (tgt := 124) dX9_take_87 (by decide) (fun hc => ?_) (fun hc => ?_)
          · have h := (if_pos hc).symm.trans h
            refine g_null X (pc := 124) dX9_take_124 ?_
            obtain rfl := Option.some.inj h
            exact g_areturn X rfl (Or.inl ⟨_, rfl⟩) hE dX9_take_125
          · have h := (if_neg hc).symm.trans h
            refine g_aload_n X (pc := 90) 0 rfl rfl dX9_take_90 ?_
            obtain ⟨v21, ev21, h⟩ := bd h
            refine g_getI X (pc := 91) fk_1_0 rfl rfl ev21 tb_959 dX9_take_91 ?_
            refine g_iconst X (pc := 94) (v := 1) dX9_take_94 (by decide) ?_
            refine g_icmp_ne X (pc := 95) (tgt := 109) dX9_take_95 (by decide) (fun hc => ?_) (fun hc => ?_)
            · have h := (if_neg hc).symm.trans h
              refine g_aload_n X (pc := 109) 1 rfl rfl dX9_take_109 ?_
              refine g_aload_n X (pc := 110) 0 rfl rfl dX9_take_110 ?_
              obtain ⟨q22, eq22, h⟩ := bd h
              obtain ⟨v24, M23, eM23, h⟩ := b2d h
              refine g_callV X (pc := 111) (M' := M23) (ro := some (pI v24)) (c := 9) rfl (by decide) (as := [pR v3]) (as' := [pR v3]) (st := []) eq22 (ctX9_isAcknowledged _ _ _ _ _ _ fu q22 v3 M19 _ eM23) tb_1113 tb_1110 tb_1112 ts_35 tb_6 ⟨rfl, hyX9_isAcknowledged⟩ rfl rfl ⟨by decide, by decide⟩ (Nat.le_of_ble_eq_true rfl) dX9_take_111 ?_
              refine g_if_eq X (pc := 114) (tgt := 124) dX9_take_114 (by decide) (fun hc => ?_) (fun hc => ?_)
              · have h := (if_pos hc).symm.trans h
                refine g_null X (pc := 124) dX9_take_124 ?_
                obtain rfl := Option.some.inj h
                exact g_areturn X rfl (Or.inl ⟨_, rfl⟩) hE dX9_take_125
              · have h := (if_neg hc).symm.trans h
                refine g_sub [1, 0] [(0, pR (some a0)), (1, pR v3)] rfl ?_
                exact wX9_take_L117 X hE hn fu   a0 v3 M23 h
            · have h := (if_pos hc).symm.trans h
              refine g_aload_n X (pc := 98) 1 rfl rfl dX9_take_98 ?_
              refine g_aload_n X (pc := 99) 0 rfl rfl dX9_take_99 ?_
              obtain ⟨q25, eq25, h⟩ := bd h
              obtain ⟨v27, M26, eM26, h⟩ := b2d h
              refine g_callV X (pc := 100) (M' := M26) (ro := some (pI v27)) (c := 9) rfl (by decide) (as := [pR v3]) (as' := [pR v3]) (st := []) eq25 (ctX9_isOpened _ _ _ _ _ _ fu q25 v3 M19 _ eM26) tb_1090 tb_1087 tb_1089 ts_33 tb_6 ⟨rfl, hyX9_isOpened⟩ rfl rfl ⟨by decide, by decide⟩ (Nat.le_of_ble_eq_true rfl) dX9_take_100 ?_
              refine g_if_eq X (pc := 103) (tgt := 124) dX9_take_103 (by decide) (fun hc => ?_) (fun hc => ?_)
              · have h := (if_pos hc).symm.trans h
                refine g_null X (pc := 124) dX9_take_124 ?_
                obtain rfl := Option.some.inj h
                exact g_areturn X rfl (Or.inl ⟨_, rfl⟩) hE dX9_take_125
              · have h := (if_neg hc).symm.trans h
                refine g_goto X (pc := 106) (tgt := 117) dX9_take_106 (by decide) ?_
                refine g_sub [1, 0] [(0, pR (some a0)), (1, pR v3)] rfl ?_
                exact wX9_take_L117 X hE hn fu   a0 v3 M26 h
        · have h := (if_neg hc).symm.trans h
          refine g_aload_n X (pc := 67) 1 rfl rfl dX9_take_67 ?_
          obtain ⟨q28, eq28, h⟩ := bd h
          obtain ⟨M29, eM29, h⟩ := bd h
          refine g_callV X (pc := 68) (M' := M29) (ro := none) (c := 9) rfl (by decide) (as := []) (as' := []) (st := []) eq28 (ctX9_reset _ _ _ _ _ _ fu q28  M15 _ eM29) tb_839 tb_836 tb_838 ts_30 tb_6 ⟨rfl, hyX9_reset⟩ rfl rfl ⟨by decide, by decide⟩ (Nat.le_of_ble_eq_true rfl) dX9_take_68 ?_
          refine g_aload_n X (pc := 71) 0 rfl rfl dX9_take_71 ?_
          obtain ⟨q30, eq30, h⟩ := bd h
          obtain ⟨M31, eM31, h⟩ := bd h
          refine g_callV X (pc := 72) (M' := M31) (ro := none) (c := 1) rfl (by decide) (as := []) (as' := []) (st := []) eq30 (ctX1_leave _ _ _ _ _ _ fu q30  M29 _ eM31) tb_452 tb_449 tb_450 tb_451 tb_18 ⟨rfl, hyX1_leave⟩ rfl rfl ⟨by decide, by decide⟩ (Nat.le_of_ble_eq_true rfl) dX9_take_72 ?_
          refine g_goto X (pc := 75) (tgt := 124) dX9_take_75 (by decide) ?_
          refine g_null X (pc := 124) dX9_take_124 ?_
          obtain rfl := Option.some.inj h
          exact g_areturn X rfl (Or.inl ⟨_, rfl⟩) hE dX9_take_125
      · have h := (if_neg hc).symm.trans h
        refine g_aload_n X (pc := 49) 0 rfl rfl dX9_take_49 ?_
        obtain ⟨q32, eq32, h⟩ := bd h
        obtain ⟨M33, eM33, h⟩ := bd h
        refine g_callV X (pc := 50) (M' := M33) (ro := none) (c := 1) rfl (by decide) (as := []) (as' := []) (st := []) eq32 (ctX1_leave _ _ _ _ _ _ fu q32  M11 _ eM33) tb_452 tb_449 tb_450 tb_451 tb_18 ⟨rfl, hyX1_leave⟩ rfl rfl ⟨by decide, by decide⟩ (Nat.le_of_ble_eq_true rfl) dX9_take_50 ?_
        refine g_goto X (pc := 53) (tgt := 124) dX9_take_53 (by decide) ?_
        refine g_null X (pc := 124) dX9_take_124 ?_
        obtain rfl := Option.some.inj h
        exact g_areturn X rfl (Or.inl ⟨_, rfl⟩) hE dX9_take_125
    · have h := (if_pos hc).symm.trans h
      refine g_aload_n X (pc := 30) 1 rfl rfl dX9_take_30 ?_
      refine g_aload_n X (pc := 31) 0 rfl rfl dX9_take_31 ?_
      obtain ⟨q34, eq34, h⟩ := bd h
      obtain ⟨M35, eM35, h⟩ := bd h
      refine g_callV X (pc := 32) (M' := M35) (ro := none) (c := 9) rfl (by decide) (as := [pR v3]) (as' := [pR v3]) (st := []) eq34 (ctX9_refuse _ _ _ _ _ _ fu q34 v3 M7 _ eM35) tb_1081 tb_1078 tb_1080 ts_32 tb_6 ⟨rfl, hyX9_refuse⟩ rfl rfl ⟨by decide, by decide⟩ (Nat.le_of_ble_eq_true rfl) dX9_take_32 ?_
      refine g_goto X (pc := 35) (tgt := 124) dX9_take_35 (by decide) ?_
      refine g_null X (pc := 124) dX9_take_124 ?_
      obtain rfl := Option.some.inj h
      exact g_areturn X rfl (Or.inl ⟨_, rfl⟩) hE dX9_take_125
  · have h := (if_pos hc).symm.trans h
    refine g_aload_n X (pc := 9) 1 rfl rfl dX9_take_9 ?_
    obtain ⟨q36, eq36, h⟩ := bd h
    obtain ⟨M37, eM37, h⟩ := bd h
    refine g_callV X (pc := 10) (M' := M37) (ro := none) (c := 9) rfl (by decide) (as := []) (as' := []) (st := []) eq36 (ctX9_takeWithoutConnection _ _ _ _ _ _ fu q36  M2 _ eM37) tb_831 tb_828 tb_830 ts_29 tb_6 ⟨rfl, hyX9_takeWithoutConnection⟩ rfl rfl ⟨by decide, by decide⟩ (Nat.le_of_ble_eq_true rfl) dX9_take_10 ?_
    refine g_goto X (pc := 13) (tgt := 124) dX9_take_13 (by decide) ?_
    refine g_null X (pc := 124) dX9_take_124 ?_
    obtain rfl := Option.some.inj h
    exact g_areturn X rfl (Or.inl ⟨_, rfl⟩) hE dX9_take_125
theorem hyX9_take : yX9_take.cls ≠ "java/lang/invoke/MethodHandle" ∧ yX9_take.cls ≠ "java/lang/invoke/VarHandle" ∧ (parseMethodDescriptor yX9_take.desc).map (fun d => d.parameters.length) = some 0 := ⟨by decide +kernel, by decide +kernel, by decide +kernel⟩
theorem ctX9_take (l : Launch) (E : Nat → Nat) (D : va_G) (dA : Nat → ClassId) (lo : Nat) (H0 : Heap) (fu : Nat) (a0 : Nat) (M : Mm) (out : Option Nat × Mm) (h : fX9_take fu a0 M = some out) : Ct l E D dA lo H0 yX9_take cX9_take 2 (some (.object "WebHost$Connection")) 6 138 [pR (some a0)] M (some (pR out.1)) out.2 := by
  refine ct_of (by decide +kernel) (Nat.le_of_ble_eq_true rfl) ?_
  intro x hl he hd ha ho hh hn hin X hE
  exact wX9_take X hE hn fu a0 M h
/-! WebHost$Tcp.sendWhatMay(LWebHost$Connection;)V -/
def fX9_sendWhatMay_L53 (fu : Nat)  (a0 : Nat) (a1 : Option Nat)  (M : Mm) : Option (Mm) :=
    (rc M 1 a1).bind fun q1 =>
    b2 (fX1_left fu q1  M) fun v3 M2 =>
    if v3 ≤ 0 then (
    some M2)
    else (
    (gI M2 1 69 a1).bind fun v4 =>
    (gI M2 1 68 a1).bind fun v5 =>
    if v4 = v5 then (
    (gI M2 1 71 a1).bind fun v6 =>
    if v6 = 0 then (
    (gR M2 1 81 a1).bind fun v7 =>
    (gI M2 5 324 v7).bind fun v8 =>
    if v8 = (2147483647 : Int32) then (
    (gR M2 1 81 a1).bind fun v9 =>
    (gR M2 9 576 (some a0)).bind fun v10 =>
    (gI M2 10 641 v10).bind fun v11 =>
    (gR M2 1 81 a1).bind fun v12 =>
    (gI M2 5 323 v12).bind fun v13 =>
    (pF M2 5 324 v9 (v11 + v13)).bind fun M14 =>
    some M14)
    else (
    some M2))
    else (
    some M2))
    else (
    some M2))
def fX9_sendWhatMay_L10 (fu : Nat)  : Nat → Nat → Option Nat → Int32 → Mm → Option (Mm)
  | 0, _, _, _, _ => none
  | n + 1, a0, a1, a2, M =>
    if (1000000 : Int32) ≤ a2 then (
    fX9_sendWhatMay_L53 fu  a0 a1 M)
    else (
    (rc M 1 a1).bind fun q1 =>
    b2 (fX1_mayGo fu q1  M) fun v3 M2 =>
    if 0 < v3 then (
    (gI M2 1 69 a1).bind fun v4 =>
    (rc M2 9 (some a0)).bind fun q5 =>
    (fX9_sendPart fu q5 a1 v4 v3 M2).bind fun M6 =>
    (rc M6 1 a1).bind fun q7 =>
    (fX1_advance fu q7 v3 M6).bind fun M8 =>
    fX9_sendWhatMay_L10 fu  n a0 a1 (a2 + (1 : Int32)) M8)
    else (
    fX9_sendWhatMay_L53 fu  a0 a1 M2))
def fX9_sendWhatMay (fu : Nat)  (a0 : Nat) (a1 : Option Nat)  (M : Mm) : Option (Mm) :=
    (gI M 1 64 a1).bind fun v1 =>
    if v1 = 0 then (
    some M)
    else (
    fX9_sendWhatMay_L10 fu  fu a0 a1 (0 : Int32) M)
theorem dX9_sendWhatMay_0 : decode cX9_sendWhatMay 0 = .ok (.aload_n 1, 1) := by decide +kernel
theorem dX9_sendWhatMay_1 : decode cX9_sendWhatMay 1 = .ok (.getfield 36, 3) := by decide +kernel
theorem dX9_sendWhatMay_4 : decode cX9_sendWhatMay 4 = .ok (.ifCond .ne 4, 3) := by decide +kernel
theorem dX9_sendWhatMay_7 : decode cX9_sendWhatMay 7 = .ok (.return_, 1) := by decide +kernel
theorem dX9_sendWhatMay_8 : decode cX9_sendWhatMay 8 = .ok (.iconst 0, 1) := by decide +kernel
theorem dX9_sendWhatMay_9 : decode cX9_sendWhatMay 9 = .ok (.istore_n 2, 1) := by decide +kernel
theorem dX9_sendWhatMay_10 : decode cX9_sendWhatMay 10 = .ok (.iload_n 2, 1) := by decide +kernel
theorem dX9_sendWhatMay_11 : decode cX9_sendWhatMay 11 = .ok (.ldc 240, 2) := by decide +kernel
theorem dX9_sendWhatMay_13 : decode cX9_sendWhatMay 13 = .ok (.if_icmp .ge 40, 3) := by decide +kernel
theorem dX9_sendWhatMay_16 : decode cX9_sendWhatMay 16 = .ok (.aload_n 1, 1) := by decide +kernel
theorem dX9_sendWhatMay_17 : decode cX9_sendWhatMay 17 = .ok (.invokevirtual 241, 3) := by decide +kernel
theorem dX9_sendWhatMay_20 : decode cX9_sendWhatMay 20 = .ok (.istore_n 3, 1) := by decide +kernel
theorem dX9_sendWhatMay_21 : decode cX9_sendWhatMay 21 = .ok (.iload_n 3, 1) := by decide +kernel
theorem dX9_sendWhatMay_22 : decode cX9_sendWhatMay 22 = .ok (.ifCond .gt 6, 3) := by decide +kernel
theorem dX9_sendWhatMay_25 : decode cX9_sendWhatMay 25 = .ok (.goto 28, 3) := by decide +kernel
theorem dX9_sendWhatMay_28 : decode cX9_sendWhatMay 28 = .ok (.aload_n 1, 1) := by decide +kernel
theorem dX9_sendWhatMay_29 : decode cX9_sendWhatMay 29 = .ok (.getfield 115, 3) := by decide +kernel
theorem dX9_sendWhatMay_32 : decode cX9_sendWhatMay 32 = .ok (.istore 4, 2) := by decide +kernel
theorem dX9_sendWhatMay_34 : decode cX9_sendWhatMay 34 = .ok (.aload_n 0, 1) := by decide +kernel
theorem dX9_sendWhatMay_35 : decode cX9_sendWhatMay 35 = .ok (.aload_n 1, 1) := by decide +kernel
theorem dX9_sendWhatMay_36 : decode cX9_sendWhatMay 36 = .ok (.iload 4, 2) := by decide +kernel
theorem dX9_sendWhatMay_38 : decode cX9_sendWhatMay 38 = .ok (.iload_n 3, 1) := by decide +kernel
theorem dX9_sendWhatMay_39 : decode cX9_sendWhatMay 39 = .ok (.invokevirtual 206, 3) := by decide +kernel
theorem dX9_sendWhatMay_42 : decode cX9_sendWhatMay 42 = .ok (.aload_n 1, 1) := by decide +kernel
theorem dX9_sendWhatMay_43 : decode cX9_sendWhatMay 43 = .ok (.iload_n 3, 1) := by decide +kernel
theorem dX9_sendWhatMay_44 : decode cX9_sendWhatMay 44 = .ok (.invokevirtual 244, 3) := by decide +kernel
theorem dX9_sendWhatMay_47 : decode cX9_sendWhatMay 47 = .ok (.iinc 2 1, 3) := by decide +kernel
theorem dX9_sendWhatMay_50 : decode cX9_sendWhatMay 50 = .ok (.goto (-40), 3) := by decide +kernel
theorem dX9_sendWhatMay_53 : decode cX9_sendWhatMay 53 = .ok (.aload_n 1, 1) := by decide +kernel
theorem dX9_sendWhatMay_54 : decode cX9_sendWhatMay 54 = .ok (.invokevirtual 247, 3) := by decide +kernel
theorem dX9_sendWhatMay_57 : decode cX9_sendWhatMay 57 = .ok (.ifCond .le 55, 3) := by decide +kernel
theorem dX9_sendWhatMay_60 : decode cX9_sendWhatMay 60 = .ok (.aload_n 1, 1) := by decide +kernel
theorem dX9_sendWhatMay_61 : decode cX9_sendWhatMay 61 = .ok (.getfield 115, 3) := by decide +kernel
theorem dX9_sendWhatMay_64 : decode cX9_sendWhatMay 64 = .ok (.aload_n 1, 1) := by decide +kernel
theorem dX9_sendWhatMay_65 : decode cX9_sendWhatMay 65 = .ok (.getfield 194, 3) := by decide +kernel
theorem dX9_sendWhatMay_68 : decode cX9_sendWhatMay 68 = .ok (.if_icmp .ne 44, 3) := by decide +kernel
theorem dX9_sendWhatMay_71 : decode cX9_sendWhatMay 71 = .ok (.aload_n 1, 1) := by decide +kernel
theorem dX9_sendWhatMay_72 : decode cX9_sendWhatMay 72 = .ok (.getfield 212, 3) := by decide +kernel
theorem dX9_sendWhatMay_75 : decode cX9_sendWhatMay 75 = .ok (.ifCond .ne 37, 3) := by decide +kernel
theorem dX9_sendWhatMay_78 : decode cX9_sendWhatMay 78 = .ok (.aload_n 1, 1) := by decide +kernel
theorem dX9_sendWhatMay_79 : decode cX9_sendWhatMay 79 = .ok (.getfield 49, 3) := by decide +kernel
theorem dX9_sendWhatMay_82 : decode cX9_sendWhatMay 82 = .ok (.getfield 53, 3) := by decide +kernel
theorem dX9_sendWhatMay_85 : decode cX9_sendWhatMay 85 = .ok (.ldc 48, 2) := by decide +kernel
theorem dX9_sendWhatMay_87 : decode cX9_sendWhatMay 87 = .ok (.if_icmp .ne 25, 3) := by decide +kernel
theorem dX9_sendWhatMay_90 : decode cX9_sendWhatMay 90 = .ok (.aload_n 1, 1) := by decide +kernel
theorem dX9_sendWhatMay_91 : decode cX9_sendWhatMay 91 = .ok (.getfield 49, 3) := by decide +kernel
theorem dX9_sendWhatMay_94 : decode cX9_sendWhatMay 94 = .ok (.aload_n 0, 1) := by decide +kernel
theorem dX9_sendWhatMay_95 : decode cX9_sendWhatMay 95 = .ok (.getfield 9, 3) := by decide +kernel
theorem dX9_sendWhatMay_98 : decode cX9_sendWhatMay 98 = .ok (.getfield 147, 3) := by decide +kernel
theorem dX9_sendWhatMay_101 : decode cX9_sendWhatMay 101 = .ok (.aload_n 1, 1) := by decide +kernel
theorem dX9_sendWhatMay_102 : decode cX9_sendWhatMay 102 = .ok (.getfield 49, 3) := by decide +kernel
theorem dX9_sendWhatMay_105 : decode cX9_sendWhatMay 105 = .ok (.getfield 161, 3) := by decide +kernel
theorem dX9_sendWhatMay_108 : decode cX9_sendWhatMay 108 = .ok (.iadd, 1) := by decide +kernel
theorem dX9_sendWhatMay_109 : decode cX9_sendWhatMay 109 = .ok (.putfield 53, 3) := by decide +kernel
theorem dX9_sendWhatMay_112 : decode cX9_sendWhatMay 112 = .ok (.return_, 1) := by decide +kernel
theorem wX9_sendWhatMay_L53 {x : GX} {n0 sl0 : Nat} (X : Cx x cX9_sendWhatMay RX9 none n0 sl0 5 117) {out : Mm} (hE : Ends x n0 sl0 none out) (hn : xn x = 5) (fu : Nat)   (a0 : Nat) (a1 : Option Nat)  (M : Mm) (h : fX9_sendWhatMay_L53 fu  a0 a1 M = some out) : Gw x M 53 [(0, pR (some a0)), (1, pR a1)] [] := by
  unfold fX9_sendWhatMay_L53 at h
  refine g_aload_n X (pc := 53) 1 rfl rfl dX9_sendWhatMay_53 ?_
  obtain ⟨q1, eq1, h⟩ := bd h
  obtain ⟨v3, M2, eM2, h⟩ := b2d h
  refine g_callV X (pc := 54) (M' := M2) (ro := some (pI v3)) (c := 1) rfl (by decide) (as := []) (as' := []) (st := []) eq1 (ctX1_left _ _ _ _ _ _ fu q1  M _ eM2) tb_503 tb_707 tb_501 tb_502 tb_18 ⟨rfl, hyX1_left⟩ rfl rfl ⟨by decide, by decide⟩ (Nat.le_of_ble_eq_true rfl) dX9_sendWhatMay_54 ?_
  refine g_if_le X (pc := 57) (tgt := 112) dX9_sendWhatMay_57 (by decide) (fun hc => ?_) (fun hc => ?_)
  · have h := (if_pos hc).symm.trans h
    obtain rfl := Option.some.inj h
    exact g_return X hE dX9_sendWhatMay_112
  · have h := (if_neg hc).symm.trans h
    refine g_aload_n X (pc := 60) 1 rfl rfl dX9_sendWhatMay_60 ?_
    obtain ⟨v4, ev4, h⟩ := bd h
    refine g_getI X (pc := 61) fk_1_5 rfl rfl ev4 tb_970 dX9_sendWhatMay_61 ?_
    refine g_aload_n X (pc := 64) 1 rfl rfl dX9_sendWhatMay_64 ?_
    obtain ⟨v5, ev5, h⟩ := bd h
    refine g_getI X (pc := 65) fk_1_4 rfl rfl ev5 tb_968 dX9_sendWhatMay_65 ?_
    refine g_icmp_ne X (pc := 68) (tgt := 112) dX9_sendWhatMay_68 (by decide) (fun hc => ?_) (fun hc => ?_)
    · have h := (if_neg hc).symm.trans h
      obtain rfl := Option.some.inj h
      exact g_return X hE dX9_sendWhatMay_112
    · have h := (if_pos hc).symm.trans h
      refine g_aload_n X (pc := 71) 1 rfl rfl dX9_sendWhatMay_71 ?_
      obtain ⟨v6, ev6, h⟩ := bd h
      refine g_getI X (pc := 72) fk_1_7 rfl rfl ev6 tb_975 dX9_sendWhatMay_72 ?_
      refine g_if_ne X (pc := 75) (tgt := 112) dX9_sendWhatMay_75 (by decide) (fun hc => ?_) (fun hc => ?_)
      · have h := (if_neg hc).symm.trans h
        obtain rfl := Option.some.inj h
        exact g_return X hE dX9_sendWhatMay_112
      · have h := (if_pos hc).symm.trans h
        refine g_aload_n X (pc := 78) 1 rfl rfl dX9_sendWhatMay_78 ?_
        obtain ⟨v7, ev7, h⟩ := bd h
        refine g_getR X (pc := 79) fk_1_17 rfl rfl ev7 tb_997 dX9_sendWhatMay_79 ?_
        obtain ⟨v8, ev8, h⟩ := bd h
        refine g_getI X (pc := 82) fk_5_4 rfl rfl ev8 tb_912 dX9_sendWhatMay_82 ?_
        refine g_ldc X (pc := 85) tb_487 dX9_sendWhatMay_85 ?_
        refine g_icmp_ne X (pc := 87) (tgt := 112) dX9_sendWhatMay_87 (by decide) (fun hc => ?_) (fun hc => ?_)
        · have h := (if_neg hc).symm.trans h
          obtain rfl := Option.some.inj h
          exact g_return X hE dX9_sendWhatMay_112
        · have h := (if_pos hc).symm.trans h
          refine g_aload_n X (pc := 90) 1 rfl rfl dX9_sendWhatMay_90 ?_
          obtain ⟨v9, ev9, h⟩ := bd h
          refine g_getR X (pc := 91) fk_1_17 rfl rfl ev9 tb_997 dX9_sendWhatMay_91 ?_
          refine g_aload_n X (pc := 94) 0 rfl rfl dX9_sendWhatMay_94 ?_
          obtain ⟨v10, ev10, h⟩ := bd h
          refine g_getR X (pc := 95) fk_9_0 rfl rfl ev10 tb_234 dX9_sendWhatMay_95 ?_
          obtain ⟨v11, ev11, h⟩ := bd h
          refine g_getI X (pc := 98) fk_10_1 rfl rfl ev11 tb_71 dX9_sendWhatMay_98 ?_
          refine g_aload_n X (pc := 101) 1 rfl rfl dX9_sendWhatMay_101 ?_
          obtain ⟨v12, ev12, h⟩ := bd h
          refine g_getR X (pc := 102) fk_1_17 rfl rfl ev12 tb_997 dX9_sendWhatMay_102 ?_
          obtain ⟨v13, ev13, h⟩ := bd h
          refine g_getI X (pc := 105) fk_5_3 rfl rfl ev13 tb_908 dX9_sendWhatMay_105 ?_
          refine g_iadd X (pc := 108) dX9_sendWhatMay_108 ?_
          obtain ⟨M14, eM14, h⟩ := bd h
          refine g_putI X (pc := 109) fk_5_4 rfl rfl rfl eM14 tb_912 (Or.inl rfl) dX9_sendWhatMay_109 ?_
          obtain rfl := Option.some.inj h
          exact g_return X hE dX9_sendWhatMay_112
theorem wX9_sendWhatMay_L10 {x : GX} {n0 sl0 : Nat} (X : Cx x cX9_sendWhatMay RX9 none n0 sl0 5 117) {out : Mm} (hE : Ends x n0 sl0 none out) (hn : xn x = 5) (fu : Nat)   : ∀ (n : Nat) (a0 : Nat) (a1 : Option Nat) (a2 : Int32)  (M : Mm), fX9_sendWhatMay_L10 fu  n a0 a1 a2 M = some out → Gw x M 10 [(0, pR (some a0)), (1, pR a1), (2, pI a2)] [] := by
  intro n
  induction n with
  | zero =>
    intro a0 a1 a2 M h
    have h : (none : Option (Mm)) = some out := h
    cases h
  | succ n ih =>
    intro a0 a1 a2 M h
    rw [fX9_sendWhatMay_L10] at h
    refine g_iload_n X (pc := 10) 2 rfl rfl dX9_sendWhatMay_10 ?_
    refine g_ldc X (pc := 11) tb_706 dX9_sendWhatMay_11 ?_
    refine g_icmp_ge X (pc := 13) (tgt := 53) dX9_sendWhatMay_13 (by decide) (fun hc => ?_) (fun hc => ?_)
    · have h := (if_pos hc).symm.trans h
      refine g_sub [0, 1] [(0, pR (some a0)), (1, pR a1)] rfl ?_
      exact wX9_sendWhatMay_L53 X hE hn fu   a0 a1 M h
    · have h := (if_neg hc).symm.trans h
      refine g_aload_n X (pc := 16) 1 rfl rfl dX9_sendWhatMay_16 ?_
      obtain ⟨q1, eq1, h⟩ := bd h
      obtain ⟨v3, M2, eM2, h⟩ := b2d h
      refine g_callV X (pc := 17) (M' := M2) (ro := some (pI v3)) (c := 1) rfl (by decide) (as := []) (as' := []) (st := []) eq1 (ctX1_mayGo _ _ _ _ _ _ fu q1  M _ eM2) tb_666 tb_663 tb_664 tb_665 tb_18 ⟨rfl, hyX1_mayGo⟩ rfl rfl ⟨by decide, by decide⟩ (Nat.le_of_ble_eq_true rfl) dX9_sendWhatMay_17 ?_
      refine g_istore_n X (pc := 20) [(3, pI v3), (0, pR (some a0)), (1, pR a1), (2, pI a2)] rfl (lt_n hn (by decide)) rfl dX9_sendWhatMay_20 ?_
      refine g_iload_n X (pc := 21) 0 rfl rfl dX9_sendWhatMay_21 ?_
      refine g_if_gt X (pc := 22) (tgt := 28) dX9_sendWhatMay_22 (by decide) (fun hc => ?_) (fun hc => ?_)
      · have h := (if_pos hc).symm.trans h
        refine g_aload_n X (pc := 28) 2 rfl rfl dX9_sendWhatMay_28 ?_
        obtain ⟨v4, ev4, h⟩ := bd h
        refine g_getI X (pc := 29) fk_1_5 rfl rfl ev4 tb_970 dX9_sendWhatMay_29 ?_
        refine g_istore X (pc := 32) [(4, pI v4), (3, pI v3), (0, pR (some a0)), (1, pR a1), (2, pI a2)] (lt_n hn (by decide)) rfl dX9_sendWhatMay_32 ?_
        refine g_aload_n X (pc := 34) 2 rfl rfl dX9_sendWhatMay_34 ?_
        refine g_aload_n X (pc := 35) 3 rfl rfl dX9_sendWhatMay_35 ?_
        refine g_iload X (pc := 36) 0 rfl dX9_sendWhatMay_36 ?_
        refine g_iload_n X (pc := 38) 1 rfl rfl dX9_sendWhatMay_38 ?_
        obtain ⟨q5, eq5, h⟩ := bd h
        obtain ⟨M6, eM6, h⟩ := bd h
        refine g_callV X (pc := 39) (M' := M6) (ro := none) (c := 9) rfl (by decide) (as := [pR a1, pI v4, pI v3]) (as' := [pI v3, pI v4, pR a1]) (st := []) eq5 (ctX9_sendPart _ _ _ _ _ _ fu q5 a1 v4 v3 M2 _ eM6) tb_676 tb_673 tb_675 ts_20 tb_6 ⟨rfl, hyX9_sendPart⟩ rfl rfl ⟨by decide, by decide⟩ (Nat.le_of_ble_eq_true rfl) dX9_sendWhatMay_39 ?_
        refine g_aload_n X (pc := 42) 3 rfl rfl dX9_sendWhatMay_42 ?_
        refine g_iload_n X (pc := 43) 1 rfl rfl dX9_sendWhatMay_43 ?_
        obtain ⟨q7, eq7, h⟩ := bd h
        obtain ⟨M8, eM8, h⟩ := bd h
        refine g_callV X (pc := 44) (M' := M8) (ro := none) (c := 1) rfl (by decide) (as := [pI v3]) (as' := [pI v3]) (st := []) eq7 (ctX1_advance _ _ _ _ _ _ fu q7 v3 M6 _ eM8) tb_696 tb_693 tb_694 tb_695 tb_18 ⟨rfl, hyX1_advance⟩ rfl rfl ⟨by decide, by decide⟩ (Nat.le_of_ble_eq_true rfl) dX9_sendWhatMay_44 ?_
        refine g_iinc X (pc := 47) 4 [(2, pI (a2 + (1 : Int32))), (4, pI v4), (3, pI v3), (0, pR (some a0)), (1, pR a1)] rfl (iinc_e (by decide)) (lt_n hn (by decide)) rfl dX9_sendWhatMay_47 ?_
        refine g_goto X (pc := 50) (tgt := 10) dX9_sendWhatMay_50 (by decide) ?_
        refine g_sub [3, 4, 0] [(0, pR (some a0)), (1, pR a1), (2, pI (a2 + (1 : Int32)))] rfl ?_
        exact ih a0 a1 (a2 + (1 : Int32)) M8 h
      · have h := (if_neg hc).symm.trans h
        refine g_goto X (pc := 25) (tgt := 53) dX9_sendWhatMay_25 (by decide) ?_
        refine g_sub [1, 2] [(0, pR (some a0)), (1, pR a1)] rfl ?_
        exact wX9_sendWhatMay_L53 X hE hn fu   a0 a1 M2 h
theorem wX9_sendWhatMay {x : GX} {n0 sl0 : Nat} (X : Cx x cX9_sendWhatMay RX9 none n0 sl0 5 117) {out : Mm} (hE : Ends x n0 sl0 none out) (hn : xn x = 5) (fu : Nat)   (a0 : Nat) (a1 : Option Nat)  (M : Mm) (h : fX9_sendWhatMay fu  a0 a1 M = some out) : Gw x M 0 [(0, pR (some a0)), (1, pR a1)] [] := by
  unfold fX9_sendWhatMay at h
  refine g_aload_n X (pc := 0) 1 rfl rfl dX9_sendWhatMay_0 ?_
  obtain ⟨v1, ev1, h⟩ := bd h
  refine g_getI X (pc := 1) fk_1_0 rfl rfl ev1 tb_959 dX9_sendWhatMay_1 ?_
  refine g_if_ne X (pc := 4) (tgt := 8) dX9_sendWhatMay_4 (by decide) (fun hc => ?_) (fun hc => ?_)
  · have h := (if_neg hc).symm.trans h
    refine g_iconst X (pc := 8) (v := 0) dX9_sendWhatMay_8 (by decide) ?_
    refine g_istore_n X (pc := 9) [(2, pI (0 : Int32)), (0, pR (some a0)), (1, pR a1)] rfl (lt_n hn (by decide)) rfl dX9_sendWhatMay_9 ?_
    refine g_sub [1, 2, 0] [(0, pR (some a0)), (1, pR a1), (2, pI (0 : Int32))] rfl ?_
    exact wX9_sendWhatMay_L10 X hE hn fu   fu a0 a1 (0 : Int32) M h
  · have h := (if_pos hc).symm.trans h
    obtain rfl := Option.some.inj h
    exact g_return X hE dX9_sendWhatMay_7
theorem hyX9_sendWhatMay : yX9_sendWhatMay.cls ≠ "java/lang/invoke/MethodHandle" ∧ yX9_sendWhatMay.cls ≠ "java/lang/invoke/VarHandle" ∧ (parseMethodDescriptor yX9_sendWhatMay.desc).map (fun d => d.parameters.length) = some 1 := ⟨by decide +kernel, by decide +kernel, by decide +kernel⟩
theorem ctX9_sendWhatMay (l : Launch) (E : Nat → Nat) (D : va_G) (dA : Nat → ClassId) (lo : Nat) (H0 : Heap) (fu : Nat) (a0 : Nat) (a1 : Option Nat) (M : Mm) (out : Mm) (h : fX9_sendWhatMay fu a0 a1 M = some out) : Ct l E D dA lo H0 yX9_sendWhatMay cX9_sendWhatMay 5 none 5 117 [pR (some a0), pR a1] M none out := by
  refine ct_of (by decide +kernel) (Nat.le_of_ble_eq_true rfl) ?_
  intro x hl he hd ha ho hh hn hin X hE
  exact wX9_sendWhatMay X hE hn fu a0 a1 M h
/-! WebHost$Tcp.sendAllDue(LWebHost$Connection;)V -/
def fX9_sendAllDue (fu : Nat)  (a0 : Nat) (a1 : Option Nat)  (M : Mm) : Option (Mm) :=
    (rc M 9 (some a0)).bind fun q1 =>
    (fX9_sendWhatMay fu q1 a1 M).bind fun M2 =>
    (gR M2 1 80 a1).bind fun v3 =>
    (gI M2 0 4 v3).bind fun v4 =>
    if v4 = 0 then (
    some M2)
    else (
    (gI M2 1 69 a1).bind fun v5 =>
    (rc M2 9 (some a0)).bind fun q6 =>
    (fX9_sendPlain fu q6 a1 v5 (16 : Int32) M2).bind fun M7 =>
    some M7)
theorem dX9_sendAllDue_0 : decode cX9_sendAllDue 0 = .ok (.aload_n 0, 1) := by decide +kernel
theorem dX9_sendAllDue_1 : decode cX9_sendAllDue 1 = .ok (.aload_n 1, 1) := by decide +kernel
theorem dX9_sendAllDue_2 : decode cX9_sendAllDue 2 = .ok (.invokevirtual 108, 3) := by decide +kernel
theorem dX9_sendAllDue_5 : decode cX9_sendAllDue 5 = .ok (.aload_n 1, 1) := by decide +kernel
theorem dX9_sendAllDue_6 : decode cX9_sendAllDue 6 = .ok (.getfield 75, 3) := by decide +kernel
theorem dX9_sendAllDue_9 : decode cX9_sendAllDue 9 = .ok (.getfield 111, 3) := by decide +kernel
theorem dX9_sendAllDue_12 : decode cX9_sendAllDue 12 = .ok (.ifCond .eq 14, 3) := by decide +kernel
theorem dX9_sendAllDue_15 : decode cX9_sendAllDue 15 = .ok (.aload_n 0, 1) := by decide +kernel
theorem dX9_sendAllDue_16 : decode cX9_sendAllDue 16 = .ok (.aload_n 1, 1) := by decide +kernel
theorem dX9_sendAllDue_17 : decode cX9_sendAllDue 17 = .ok (.aload_n 1, 1) := by decide +kernel
theorem dX9_sendAllDue_18 : decode cX9_sendAllDue 18 = .ok (.getfield 115, 3) := by decide +kernel
theorem dX9_sendAllDue_21 : decode cX9_sendAllDue 21 = .ok (.bipush 16, 2) := by decide +kernel
theorem dX9_sendAllDue_23 : decode cX9_sendAllDue 23 = .ok (.invokevirtual 118, 3) := by decide +kernel
theorem dX9_sendAllDue_26 : decode cX9_sendAllDue 26 = .ok (.return_, 1) := by decide +kernel
theorem wX9_sendAllDue {x : GX} {n0 sl0 : Nat} (X : Cx x cX9_sendAllDue RX9 none n0 sl0 6 141) {out : Mm} (hE : Ends x n0 sl0 none out) (hn : xn x = 2) (fu : Nat)   (a0 : Nat) (a1 : Option Nat)  (M : Mm) (h : fX9_sendAllDue fu  a0 a1 M = some out) : Gw x M 0 [(0, pR (some a0)), (1, pR a1)] [] := by
  unfold fX9_sendAllDue at h
  refine g_aload_n X (pc := 0) 0 rfl rfl dX9_sendAllDue_0 ?_
  refine g_aload_n X (pc := 1) 1 rfl rfl dX9_sendAllDue_1 ?_
  obtain ⟨q1, eq1, h⟩ := bd h
  obtain ⟨M2, eM2, h⟩ := bd h
  refine g_callV X (pc := 2) (M' := M2) (ro := none) (c := 9) rfl (by decide) (as := [pR a1]) (as' := [pR a1]) (st := []) eq1 (ctX9_sendWhatMay _ _ _ _ _ _ fu q1 a1 M _ eM2) tb_705 tb_1479 tb_703 tb_704 tb_6 ⟨rfl, hyX9_sendWhatMay⟩ rfl rfl ⟨by decide, by decide⟩ (Nat.le_of_ble_eq_true rfl) dX9_sendAllDue_2 ?_
  refine g_aload_n X (pc := 5) 1 rfl rfl dX9_sendAllDue_5 ?_
  obtain ⟨v3, ev3, h⟩ := bd h
  refine g_getR X (pc := 6) fk_1_16 rfl rfl ev3 tb_995 dX9_sendAllDue_6 ?_
  obtain ⟨v4, ev4, h⟩ := bd h
  refine g_getI X (pc := 9) fk_0_4 rfl rfl ev4 tb_868 dX9_sendAllDue_9 ?_
  refine g_if_eq X (pc := 12) (tgt := 26) dX9_sendAllDue_12 (by decide) (fun hc => ?_) (fun hc => ?_)
  · have h := (if_pos hc).symm.trans h
    obtain rfl := Option.some.inj h
    exact g_return X hE dX9_sendAllDue_26
  · have h := (if_neg hc).symm.trans h
    refine g_aload_n X (pc := 15) 0 rfl rfl dX9_sendAllDue_15 ?_
    refine g_aload_n X (pc := 16) 1 rfl rfl dX9_sendAllDue_16 ?_
    refine g_aload_n X (pc := 17) 1 rfl rfl dX9_sendAllDue_17 ?_
    obtain ⟨v5, ev5, h⟩ := bd h
    refine g_getI X (pc := 18) fk_1_5 rfl rfl ev5 tb_970 dX9_sendAllDue_18 ?_
    refine g_bipush X (pc := 21) (v := 16) dX9_sendAllDue_21 (by decide) ?_
    obtain ⟨q6, eq6, h⟩ := bd h
    obtain ⟨M7, eM7, h⟩ := bd h
    refine g_callV X (pc := 23) (M' := M7) (ro := none) (c := 9) rfl (by decide) (as := [pR a1, pI v5, pI (16 : Int32)]) (as' := [pI (16 : Int32), pI v5, pR a1]) (st := []) eq6 (ctX9_sendPlain _ _ _ _ _ _ fu q6 a1 v5 (16 : Int32) M2 _ eM7) tb_589 tb_586 tb_588 ts_11 tb_6 ⟨rfl, hyX9_sendPlain⟩ rfl rfl ⟨by decide, by decide⟩ (Nat.le_of_ble_eq_true rfl) dX9_sendAllDue_23 ?_
    obtain rfl := Option.some.inj h
    exact g_return X hE dX9_sendAllDue_26
theorem hyX9_sendAllDue : yX9_sendAllDue.cls ≠ "java/lang/invoke/MethodHandle" ∧ yX9_sendAllDue.cls ≠ "java/lang/invoke/VarHandle" ∧ (parseMethodDescriptor yX9_sendAllDue.desc).map (fun d => d.parameters.length) = some 1 := ⟨by decide +kernel, by decide +kernel, by decide +kernel⟩
theorem ctX9_sendAllDue (l : Launch) (E : Nat → Nat) (D : va_G) (dA : Nat → ClassId) (lo : Nat) (H0 : Heap) (fu : Nat) (a0 : Nat) (a1 : Option Nat) (M : Mm) (out : Mm) (h : fX9_sendAllDue fu a0 a1 M = some out) : Ct l E D dA lo H0 yX9_sendAllDue cX9_sendAllDue 2 none 6 141 [pR (some a0), pR a1] M none out := by
  refine ct_of (by decide +kernel) (Nat.le_of_ble_eq_true rfl) ?_
  intro x hl he hd ha ho hh hn hin X hE
  exact wX9_sendAllDue X hE hn fu a0 a1 M h
