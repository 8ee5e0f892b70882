/-! ===== walks of methods, printed by a program of ours ===== -/
/-! WebHostModel.send(IIII)V -/
def fX16_send_L116 (fu : Nat)  : Nat → Nat → Int32 → Int32 → Int32 → Mm → Option (Mm)
  | 0, _, _, _, _, _ => none
  | n + 1, a0, a5, a6, a7, M =>
    if a5 ≤ a7 then (
    (gR M 16 1045 (some a0)).bind fun v1 =>
    (pA M 101 v1 a6 a5).bind fun M2 =>
    (gR M2 16 1046 (some a0)).bind fun v3 =>
    (gI M2 16 1034 (some a0)).bind fun v4 =>
    (pA M2 101 v3 a6 v4).bind fun M5 =>
    (gI M5 16 1047 (some a0)).bind fun v6 =>
    (pF M5 16 1047 (some a0) (v6 + (1 : Int32))).bind fun M7 =>
    some M7)
    else (
    (gR M 16 1044 (some a0)).bind fun v8 =>
    (gR M 16 1043 (some a0)).bind fun v9 =>
    (gA M 100 v9 a7).bind fun v10 =>
    (pA M 100 v8 ((a6 * (1514 : Int32)) + a7) (Int8.toInt32 (Int32.toInt8 v10))).bind fun M11 =>
    fX16_send_L116 fu  n a0 a5 a6 (a7 + (1 : Int32)) M11)
def fX16_send_L55 (fu : Nat)  : Nat → Nat → Int32 → Int32 → Mm → Option (Mm)
  | 0, _, _, _, _ => none
  | n + 1, a0, a5, a6, M =>
    if (60 : Int32) ≤ a6 then (
    if (jmax a5 (60 : Int32)) ≤ (1514 : Int32) then (
    (gI M 16 1047 (some a0)).bind fun v1 =>
    fX16_send_L116 fu  fu a0 (jmax a5 (60 : Int32)) (irm v1 (32 : Int32)) (0 : Int32) M)
    else (
    (gI M 16 1042 (some a0)).bind fun v2 =>
    (pF M 16 1042 (some a0) (v2 + (1 : Int32))).bind fun M3 =>
    some M3))
    else (
    (gR M 16 1043 (some a0)).bind fun v4 =>
    (pA M 100 v4 a6 (Int8.toInt32 (Int32.toInt8 (0 : Int32)))).bind fun M5 =>
    fX16_send_L55 fu  n a0 a5 (a6 + (1 : Int32)) M5)
def fX16_send (fu : Nat)  (a0 : Nat) (a1 : Int32) (a2 : Int32) (a3 : Int32) (a4 : Int32)  (M : Mm) : Option (Mm) :=
    (rc M 16 (some a0)).bind fun q1 =>
    (fX16_put fu q1 (0 : Int32) (2 : Int32) a1 M).bind fun M2 =>
    (rc M2 16 (some a0)).bind fun q3 =>
    (fX16_put fu q3 (2 : Int32) (4 : Int32) a2 M2).bind fun M4 =>
    (gI M4 16 1032 (some a0)).bind fun v5 =>
    (rc M4 16 (some a0)).bind fun q6 =>
    (fX16_put fu q6 (6 : Int32) (2 : Int32) v5 M4).bind fun M7 =>
    (gI M7 16 1033 (some a0)).bind fun v8 =>
    (rc M7 16 (some a0)).bind fun q9 =>
    (fX16_put fu q9 (8 : Int32) (4 : Int32) v8 M7).bind fun M10 =>
    (rc M10 16 (some a0)).bind fun q11 =>
    (fX16_put fu q11 (12 : Int32) (2 : Int32) a3 M10).bind fun M12 =>
    fX16_send_L55 fu  fu a0 ((14 : Int32) + a4) ((14 : Int32) + a4) M12
theorem dX16_send_0 : decode cX16_send 0 = .ok (.aload_n 0, 1) := by decide +kernel
theorem dX16_send_1 : decode cX16_send 1 = .ok (.iconst 0, 1) := by decide +kernel
theorem dX16_send_2 : decode cX16_send 2 = .ok (.iconst 2, 1) := by decide +kernel
theorem dX16_send_3 : decode cX16_send 3 = .ok (.iload_n 1, 1) := by decide +kernel
theorem dX16_send_4 : decode cX16_send 4 = .ok (.invokevirtual 160, 3) := by decide +kernel
theorem dX16_send_7 : decode cX16_send 7 = .ok (.aload_n 0, 1) := by decide +kernel
theorem dX16_send_8 : decode cX16_send 8 = .ok (.iconst 2, 1) := by decide +kernel
theorem dX16_send_9 : decode cX16_send 9 = .ok (.iconst 4, 1) := by decide +kernel
theorem dX16_send_10 : decode cX16_send 10 = .ok (.iload_n 2, 1) := by decide +kernel
theorem dX16_send_11 : decode cX16_send 11 = .ok (.invokevirtual 160, 3) := by decide +kernel
theorem dX16_send_14 : decode cX16_send 14 = .ok (.aload_n 0, 1) := by decide +kernel
theorem dX16_send_15 : decode cX16_send 15 = .ok (.bipush 6, 2) := by decide +kernel
theorem dX16_send_17 : decode cX16_send 17 = .ok (.iconst 2, 1) := by decide +kernel
theorem dX16_send_18 : decode cX16_send 18 = .ok (.aload_n 0, 1) := by decide +kernel
theorem dX16_send_19 : decode cX16_send 19 = .ok (.getfield 125, 3) := by decide +kernel
theorem dX16_send_22 : decode cX16_send 22 = .ok (.invokevirtual 160, 3) := by decide +kernel
theorem dX16_send_25 : decode cX16_send 25 = .ok (.aload_n 0, 1) := by decide +kernel
theorem dX16_send_26 : decode cX16_send 26 = .ok (.bipush 8, 2) := by decide +kernel
theorem dX16_send_28 : decode cX16_send 28 = .ok (.iconst 4, 1) := by decide +kernel
theorem dX16_send_29 : decode cX16_send 29 = .ok (.aload_n 0, 1) := by decide +kernel
theorem dX16_send_30 : decode cX16_send 30 = .ok (.getfield 128, 3) := by decide +kernel
theorem dX16_send_33 : decode cX16_send 33 = .ok (.invokevirtual 160, 3) := by decide +kernel
theorem dX16_send_36 : decode cX16_send 36 = .ok (.aload_n 0, 1) := by decide +kernel
theorem dX16_send_37 : decode cX16_send 37 = .ok (.bipush 12, 2) := by decide +kernel
theorem dX16_send_39 : decode cX16_send 39 = .ok (.iconst 2, 1) := by decide +kernel
theorem dX16_send_40 : decode cX16_send 40 = .ok (.iload_n 3, 1) := by decide +kernel
theorem dX16_send_41 : decode cX16_send 41 = .ok (.invokevirtual 160, 3) := by decide +kernel
theorem dX16_send_44 : decode cX16_send 44 = .ok (.bipush 14, 2) := by decide +kernel
theorem dX16_send_46 : decode cX16_send 46 = .ok (.iload 4, 2) := by decide +kernel
theorem dX16_send_48 : decode cX16_send 48 = .ok (.iadd, 1) := by decide +kernel
theorem dX16_send_49 : decode cX16_send 49 = .ok (.istore 5, 2) := by decide +kernel
theorem dX16_send_51 : decode cX16_send 51 = .ok (.iload 5, 2) := by decide +kernel
theorem dX16_send_53 : decode cX16_send 53 = .ok (.istore 6, 2) := by decide +kernel
theorem dX16_send_55 : decode cX16_send 55 = .ok (.iload 6, 2) := by decide +kernel
theorem dX16_send_57 : decode cX16_send 57 = .ok (.bipush 60, 2) := by decide +kernel
theorem dX16_send_59 : decode cX16_send 59 = .ok (.if_icmp .ge 17, 3) := by decide +kernel
theorem dX16_send_62 : decode cX16_send 62 = .ok (.aload_n 0, 1) := by decide +kernel
theorem dX16_send_63 : decode cX16_send 63 = .ok (.getfield 34, 3) := by decide +kernel
theorem dX16_send_66 : decode cX16_send 66 = .ok (.iload 6, 2) := by decide +kernel
theorem dX16_send_68 : decode cX16_send 68 = .ok (.iconst 0, 1) := by decide +kernel
theorem dX16_send_69 : decode cX16_send 69 = .ok (.bastore, 1) := by decide +kernel
theorem dX16_send_70 : decode cX16_send 70 = .ok (.iinc 6 1, 3) := by decide +kernel
theorem dX16_send_73 : decode cX16_send 73 = .ok (.goto (-18), 3) := by decide +kernel
theorem dX16_send_76 : decode cX16_send 76 = .ok (.iload 5, 2) := by decide +kernel
theorem dX16_send_78 : decode cX16_send 78 = .ok (.bipush 60, 2) := by decide +kernel
theorem dX16_send_80 : decode cX16_send 80 = .ok (.invokestatic 164, 3) := by decide +kernel
theorem dX16_send_83 : decode cX16_send 83 = .ok (.istore 5, 2) := by decide +kernel
theorem dX16_send_85 : decode cX16_send 85 = .ok (.iload 5, 2) := by decide +kernel
theorem dX16_send_87 : decode cX16_send 87 = .ok (.sipush 1514, 3) := by decide +kernel
theorem dX16_send_90 : decode cX16_send 90 = .ok (.if_icmp .le 14, 3) := by decide +kernel
theorem dX16_send_93 : decode cX16_send 93 = .ok (.aload_n 0, 1) := by decide +kernel
theorem dX16_send_94 : decode cX16_send 94 = .ok (.dup, 1) := by decide +kernel
theorem dX16_send_95 : decode cX16_send 95 = .ok (.getfield 146, 3) := by decide +kernel
theorem dX16_send_98 : decode cX16_send 98 = .ok (.iconst 1, 1) := by decide +kernel
theorem dX16_send_99 : decode cX16_send 99 = .ok (.iadd, 1) := by decide +kernel
theorem dX16_send_100 : decode cX16_send 100 = .ok (.putfield 146, 3) := by decide +kernel
theorem dX16_send_103 : decode cX16_send 103 = .ok (.return_, 1) := by decide +kernel
theorem dX16_send_104 : decode cX16_send 104 = .ok (.aload_n 0, 1) := by decide +kernel
theorem dX16_send_105 : decode cX16_send 105 = .ok (.getfield 137, 3) := by decide +kernel
theorem dX16_send_108 : decode cX16_send 108 = .ok (.bipush 32, 2) := by decide +kernel
theorem dX16_send_110 : decode cX16_send 110 = .ok (.irem, 1) := by decide +kernel
theorem dX16_send_111 : decode cX16_send 111 = .ok (.istore 6, 2) := by decide +kernel
theorem dX16_send_113 : decode cX16_send 113 = .ok (.iconst 0, 1) := by decide +kernel
theorem dX16_send_114 : decode cX16_send 114 = .ok (.istore 7, 2) := by decide +kernel
theorem dX16_send_116 : decode cX16_send 116 = .ok (.iload 7, 2) := by decide +kernel
theorem dX16_send_118 : decode cX16_send 118 = .ok (.iload 5, 2) := by decide +kernel
theorem dX16_send_120 : decode cX16_send 120 = .ok (.if_icmp .ge 30, 3) := by decide +kernel
theorem dX16_send_123 : decode cX16_send 123 = .ok (.aload_n 0, 1) := by decide +kernel
theorem dX16_send_124 : decode cX16_send 124 = .ok (.getfield 38, 3) := by decide +kernel
theorem dX16_send_127 : decode cX16_send 127 = .ok (.iload 6, 2) := by decide +kernel
theorem dX16_send_129 : decode cX16_send 129 = .ok (.sipush 1514, 3) := by decide +kernel
theorem dX16_send_132 : decode cX16_send 132 = .ok (.imul, 1) := by decide +kernel
theorem dX16_send_133 : decode cX16_send 133 = .ok (.iload 7, 2) := by decide +kernel
theorem dX16_send_135 : decode cX16_send 135 = .ok (.iadd, 1) := by decide +kernel
theorem dX16_send_136 : decode cX16_send 136 = .ok (.aload_n 0, 1) := by decide +kernel
theorem dX16_send_137 : decode cX16_send 137 = .ok (.getfield 34, 3) := by decide +kernel
theorem dX16_send_140 : decode cX16_send 140 = .ok (.iload 7, 2) := by decide +kernel
theorem dX16_send_142 : decode cX16_send 142 = .ok (.baload, 1) := by decide +kernel
theorem dX16_send_143 : decode cX16_send 143 = .ok (.bastore, 1) := by decide +kernel
theorem dX16_send_144 : decode cX16_send 144 = .ok (.iinc 7 1, 3) := by decide +kernel
theorem dX16_send_147 : decode cX16_send 147 = .ok (.goto (-31), 3) := by decide +kernel
theorem dX16_send_150 : decode cX16_send 150 = .ok (.aload_n 0, 1) := by decide +kernel
theorem dX16_send_151 : decode cX16_send 151 = .ok (.getfield 41, 3) := by decide +kernel
theorem dX16_send_154 : decode cX16_send 154 = .ok (.iload 6, 2) := by decide +kernel
theorem dX16_send_156 : decode cX16_send 156 = .ok (.iload 5, 2) := by decide +kernel
theorem dX16_send_158 : decode cX16_send 158 = .ok (.iastore, 1) := by decide +kernel
theorem dX16_send_159 : decode cX16_send 159 = .ok (.aload_n 0, 1) := by decide +kernel
theorem dX16_send_160 : decode cX16_send 160 = .ok (.getfield 44, 3) := by decide +kernel
theorem dX16_send_163 : decode cX16_send 163 = .ok (.iload 6, 2) := by decide +kernel
theorem dX16_send_165 : decode cX16_send 165 = .ok (.aload_n 0, 1) := by decide +kernel
theorem dX16_send_166 : decode cX16_send 166 = .ok (.getfield 134, 3) := by decide +kernel
theorem dX16_send_169 : decode cX16_send 169 = .ok (.iastore, 1) := by decide +kernel
theorem dX16_send_170 : decode cX16_send 170 = .ok (.aload_n 0, 1) := by decide +kernel
theorem dX16_send_171 : decode cX16_send 171 = .ok (.dup, 1) := by decide +kernel
theorem dX16_send_172 : decode cX16_send 172 = .ok (.getfield 137, 3) := by decide +kernel
theorem dX16_send_175 : decode cX16_send 175 = .ok (.iconst 1, 1) := by decide +kernel
theorem dX16_send_176 : decode cX16_send 176 = .ok (.iadd, 1) := by decide +kernel
theorem dX16_send_177 : decode cX16_send 177 = .ok (.putfield 137, 3) := by decide +kernel
theorem dX16_send_180 : decode cX16_send 180 = .ok (.return_, 1) := by decide +kernel
theorem wX16_send_L116 {x : GX} {n0 sl0 : Nat} (X : Cx x cX16_send RX16 none n0 sl0 1 24) {out : Mm} (hE : Ends x n0 sl0 none out) (hn : xn x = 8) (fu : Nat)   : ∀ (n : Nat) (a0 : Nat) (a5 : Int32) (a6 : Int32) (a7 : Int32)  (M : Mm), fX16_send_L116 fu  n a0 a5 a6 a7 M = some out → Gw x M 116 [(0, pR (some a0)), (5, pI a5), (6, pI a6), (7, pI a7)] [] := by
  intro n
  induction n with
  | zero =>
    intro a0 a5 a6 a7 M h
    have h : (none : Option (Mm)) = some out := h
    cases h
  | succ n ih =>
    intro a0 a5 a6 a7 M h
    rw [fX16_send_L116] at h
    refine g_iload X (pc := 116) 3 rfl dX16_send_116 ?_
    refine g_iload X (pc := 118) 1 rfl dX16_send_118 ?_
    refine g_icmp_ge X (pc := 120) (tgt := 150) dX16_send_120 (by decide) (fun hc => ?_) (fun hc => ?_)
    · have h := (if_pos hc).symm.trans h
      refine g_aload_n X (pc := 150) 0 rfl rfl dX16_send_150 ?_
      obtain ⟨v1, ev1, h⟩ := bd h
      refine g_getR X (pc := 151) fk_16_21 rfl rfl ev1 tb_1835 dX16_send_151 ?_
      refine g_iload X (pc := 154) 2 rfl dX16_send_154 ?_
      refine g_iload X (pc := 156) 1 rfl dX16_send_156 ?_
      obtain ⟨M2, eM2, h⟩ := bd h
      refine g_iastore X (pc := 158) eM2 dX16_send_158 ?_
      refine g_aload_n X (pc := 159) 0 rfl rfl dX16_send_159 ?_
      obtain ⟨v3, ev3, h⟩ := bd h
      refine g_getR X (pc := 160) fk_16_22 rfl rfl ev3 tb_1836 dX16_send_160 ?_
      refine g_iload X (pc := 163) 2 rfl dX16_send_163 ?_
      refine g_aload_n X (pc := 165) 0 rfl rfl dX16_send_165 ?_
      obtain ⟨v4, ev4, h⟩ := bd h
      refine g_getI X (pc := 166) fk_16_10 rfl rfl ev4 tb_1824 dX16_send_166 ?_
      obtain ⟨M5, eM5, h⟩ := bd h
      refine g_iastore X (pc := 169) eM5 dX16_send_169 ?_
      refine g_aload_n X (pc := 170) 0 rfl rfl dX16_send_170 ?_
      refine g_dup X (pc := 171) rfl dX16_send_171 ?_
      obtain ⟨v6, ev6, h⟩ := bd h
      refine g_getI X (pc := 172) fk_16_23 rfl rfl ev6 tb_1837 dX16_send_172 ?_
      refine g_iconst X (pc := 175) (v := 1) dX16_send_175 (by decide) ?_
      refine g_iadd X (pc := 176) dX16_send_176 ?_
      obtain ⟨M7, eM7, h⟩ := bd h
      refine g_putI X (pc := 177) fk_16_23 rfl rfl rfl eM7 tb_1837 (Or.inl rfl) dX16_send_177 ?_
      obtain rfl := Option.some.inj h
      exact g_return X hE dX16_send_180
    · have h := (if_neg hc).symm.trans h
      refine g_aload_n X (pc := 123) 0 rfl rfl dX16_send_123 ?_
      obtain ⟨v8, ev8, h⟩ := bd h
      refine g_getR X (pc := 124) fk_16_20 rfl rfl ev8 tb_1834 dX16_send_124 ?_
      refine g_iload X (pc := 127) 2 rfl dX16_send_127 ?_
      refine g_sipush X (pc := 129) (v := 1514) dX16_send_129 (by decide) ?_
      refine g_imul X (pc := 132) dX16_send_132 ?_
      refine g_iload X (pc := 133) 3 rfl dX16_send_133 ?_
      refine g_iadd X (pc := 135) dX16_send_135 ?_
      refine g_aload_n X (pc := 136) 0 rfl rfl dX16_send_136 ?_
      obtain ⟨v9, ev9, h⟩ := bd h
      refine g_getR X (pc := 137) fk_16_19 rfl rfl ev9 tb_1833 dX16_send_137 ?_
      refine g_iload X (pc := 140) 3 rfl dX16_send_140 ?_
      obtain ⟨v10, ev10, h⟩ := bd h
      refine g_baload X (pc := 142) ev10 dX16_send_142 ?_
      obtain ⟨M11, eM11, h⟩ := bd h
      refine g_bastore X (pc := 143) eM11 dX16_send_143 ?_
      refine g_iinc X (pc := 144) 3 [(7, pI (a7 + (1 : Int32))), (0, pR (some a0)), (5, pI a5), (6, pI a6)] rfl (iinc_e (by decide)) (lt_n hn (by decide)) rfl dX16_send_144 ?_
      refine g_goto X (pc := 147) (tgt := 116) dX16_send_147 (by decide) ?_
      refine g_sub [1, 2, 3, 0] [(0, pR (some a0)), (5, pI a5), (6, pI a6), (7, pI (a7 + (1 : Int32)))] rfl ?_
      exact ih a0 a5 a6 (a7 + (1 : Int32)) M11 h
theorem wX16_send_L55 {x : GX} {n0 sl0 : Nat} (X : Cx x cX16_send RX16 none n0 sl0 1 24) {out : Mm} (hE : Ends x n0 sl0 none out) (hn : xn x = 8) (fu : Nat)   : ∀ (n : Nat) (a0 : Nat) (a5 : Int32) (a6 : Int32)  (M : Mm), fX16_send_L55 fu  n a0 a5 a6 M = some out → Gw x M 55 [(0, pR (some a0)), (5, pI a5), (6, pI a6)] [] := by
  intro n
  induction n with
  | zero =>
    intro a0 a5 a6 M h
    have h : (none : Option (Mm)) = some out := h
    cases h
  | succ n ih =>
    intro a0 a5 a6 M h
    rw [fX16_send_L55] at h
    refine g_iload X (pc := 55) 2 rfl dX16_send_55 ?_
    refine g_bipush X (pc := 57) (v := 60) dX16_send_57 (by decide) ?_
    refine g_icmp_ge X (pc := 59) (tgt := 76) dX16_send_59 (by decide) (fun hc => ?_) (fun hc => ?_)
    · have h := (if_pos hc).symm.trans h
      refine g_iload X (pc := 76) 1 rfl dX16_send_76 ?_
      refine g_bipush X (pc := 78) (v := 60) dX16_send_78 (by decide) ?_
      refine g_mmax X (pc := 80) tb_2100 tb_405 tb_13 tb_406 ⟨by decide, Nat.le_of_ble_eq_true rfl⟩ dX16_send_80 ?_
      refine g_istore X (pc := 83) [(5, pI (jmax a5 (60 : Int32))), (0, pR (some a0)), (6, pI a6)] (lt_n hn (by decide)) rfl dX16_send_83 ?_
      refine g_iload X (pc := 85) 0 rfl dX16_send_85 ?_
      refine g_sipush X (pc := 87) (v := 1514) dX16_send_87 (by decide) ?_
      refine g_icmp_le X (pc := 90) (tgt := 104) dX16_send_90 (by decide) (fun hc => ?_) (fun hc => ?_)
      · have h := (if_pos hc).symm.trans h
        refine g_aload_n X (pc := 104) 1 rfl rfl dX16_send_104 ?_
        obtain ⟨v1, ev1, h⟩ := bd h
        refine g_getI X (pc := 105) fk_16_23 rfl rfl ev1 tb_1837 dX16_send_105 ?_
        refine g_bipush X (pc := 108) (v := 32) dX16_send_108 (by decide) ?_
        refine g_irem X (pc := 110) (by decide) dX16_send_110 ?_
        refine g_istore X (pc := 111) [(6, pI (irm v1 (32 : Int32))), (5, pI (jmax a5 (60 : Int32))), (0, pR (some a0))] (lt_n hn (by decide)) rfl dX16_send_111 ?_
        refine g_iconst X (pc := 113) (v := 0) dX16_send_113 (by decide) ?_
        refine g_istore X (pc := 114) [(7, pI (0 : Int32)), (6, pI (irm v1 (32 : Int32))), (5, pI (jmax a5 (60 : Int32))), (0, pR (some a0))] (lt_n hn (by decide)) rfl dX16_send_114 ?_
        refine g_sub [3, 2, 1, 0] [(0, pR (some a0)), (5, pI (jmax a5 (60 : Int32))), (6, pI (irm v1 (32 : Int32))), (7, pI (0 : Int32))] rfl ?_
        exact wX16_send_L116 X hE hn fu   fu a0 (jmax a5 (60 : Int32)) (irm v1 (32 : Int32)) (0 : Int32) M h
      · have h := (if_neg hc).symm.trans h
        refine g_aload_n X (pc := 93) 1 rfl rfl dX16_send_93 ?_
        refine g_dup X (pc := 94) rfl dX16_send_94 ?_
        obtain ⟨v2, ev2, h⟩ := bd h
        refine g_getI X (pc := 95) fk_16_18 rfl rfl ev2 tb_1832 dX16_send_95 ?_
        refine g_iconst X (pc := 98) (v := 1) dX16_send_98 (by decide) ?_
        refine g_iadd X (pc := 99) dX16_send_99 ?_
        obtain ⟨M3, eM3, h⟩ := bd h
        refine g_putI X (pc := 100) fk_16_18 rfl rfl rfl eM3 tb_1832 (Or.inl rfl) dX16_send_100 ?_
        obtain rfl := Option.some.inj h
        exact g_return X hE dX16_send_103
    · have h := (if_neg hc).symm.trans h
      refine g_aload_n X (pc := 62) 0 rfl rfl dX16_send_62 ?_
      obtain ⟨v4, ev4, h⟩ := bd h
      refine g_getR X (pc := 63) fk_16_19 rfl rfl ev4 tb_1833 dX16_send_63 ?_
      refine g_iload X (pc := 66) 2 rfl dX16_send_66 ?_
      refine g_iconst X (pc := 68) (v := 0) dX16_send_68 (by decide) ?_
      obtain ⟨M5, eM5, h⟩ := bd h
      refine g_bastore X (pc := 69) eM5 dX16_send_69 ?_
      refine g_iinc X (pc := 70) 2 [(6, pI (a6 + (1 : Int32))), (0, pR (some a0)), (5, pI a5)] rfl (iinc_e (by decide)) (lt_n hn (by decide)) rfl dX16_send_70 ?_
      refine g_goto X (pc := 73) (tgt := 55) dX16_send_73 (by decide) ?_
      refine g_sub [1, 2, 0] [(0, pR (some a0)), (5, pI a5), (6, pI (a6 + (1 : Int32)))] rfl ?_
      exact ih a0 a5 (a6 + (1 : Int32)) M5 h
theorem wX16_send {x : GX} {n0 sl0 : Nat} (X : Cx x cX16_send RX16 none n0 sl0 1 24) {out : Mm} (hE : Ends x n0 sl0 none out) (hn : xn x = 8) (fu : Nat)   (a0 : Nat) (a1 : Int32) (a2 : Int32) (a3 : Int32) (a4 : Int32)  (M : Mm) (h : fX16_send fu  a0 a1 a2 a3 a4 M = some out) : Gw x M 0 [(0, pR (some a0)), (1, pI a1), (2, pI a2), (3, pI a3), (4, pI a4)] [] := by
  unfold fX16_send at h
  refine g_aload_n X (pc := 0) 0 rfl rfl dX16_send_0 ?_
  refine g_iconst X (pc := 1) (v := 0) dX16_send_1 (by decide) ?_
  refine g_iconst X (pc := 2) (v := 2) dX16_send_2 (by decide) ?_
  refine g_iload_n X (pc := 3) 1 rfl rfl dX16_send_3 ?_
  obtain ⟨q1, eq1, h⟩ := bd h
  obtain ⟨M2, eM2, h⟩ := bd h
  refine g_callV X (pc := 4) (M' := M2) (ro := none) (c := 16) rfl (by decide) (as := [pI (0 : Int32), pI (2 : Int32), pI a1]) (as' := [pI a1, pI (2 : Int32), pI (0 : Int32)]) (st := []) eq1 (ctX16_put _ _ _ _ _ _ fu q1 (0 : Int32) (2 : Int32) a1 M _ eM2) tb_2095 tb_2092 tb_2094 ts_72 tb_8 ⟨rfl, hyX16_put⟩ rfl rfl ⟨by decide, by decide⟩ (Nat.le_of_ble_eq_true rfl) dX16_send_4 ?_
  refine g_aload_n X (pc := 7) 0 rfl rfl dX16_send_7 ?_
  refine g_iconst X (pc := 8) (v := 2) dX16_send_8 (by decide) ?_
  refine g_iconst X (pc := 9) (v := 4) dX16_send_9 (by decide) ?_
  refine g_iload_n X (pc := 10) 2 rfl rfl dX16_send_10 ?_
  obtain ⟨q3, eq3, h⟩ := bd h
  obtain ⟨M4, eM4, h⟩ := bd h
  refine g_callV X (pc := 11) (M' := M4) (ro := none) (c := 16) rfl (by decide) (as := [pI (2 : Int32), pI (4 : Int32), pI a2]) (as' := [pI a2, pI (4 : Int32), pI (2 : Int32)]) (st := []) eq3 (ctX16_put _ _ _ _ _ _ fu q3 (2 : Int32) (4 : Int32) a2 M2 _ eM4) tb_2095 tb_2092 tb_2094 ts_72 tb_8 ⟨rfl, hyX16_put⟩ rfl rfl ⟨by decide, by decide⟩ (Nat.le_of_ble_eq_true rfl) dX16_send_11 ?_
  refine g_aload_n X (pc := 14) 0 rfl rfl dX16_send_14 ?_
  refine g_bipush X (pc := 15) (v := 6) dX16_send_15 (by decide) ?_
  refine g_iconst X (pc := 17) (v := 2) dX16_send_17 (by decide) ?_
  refine g_aload_n X (pc := 18) 0 rfl rfl dX16_send_18 ?_
  obtain ⟨v5, ev5, h⟩ := bd h
  refine g_getI X (pc := 19) fk_16_8 rfl rfl ev5 tb_1822 dX16_send_19 ?_
  obtain ⟨q6, eq6, h⟩ := bd h
  obtain ⟨M7, eM7, h⟩ := bd h
  refine g_callV X (pc := 22) (M' := M7) (ro := none) (c := 16) rfl (by decide) (as := [pI (6 : Int32), pI (2 : Int32), pI v5]) (as' := [pI v5, pI (2 : Int32), pI (6 : Int32)]) (st := []) eq6 (ctX16_put _ _ _ _ _ _ fu q6 (6 : Int32) (2 : Int32) v5 M4 _ eM7) tb_2095 tb_2092 tb_2094 ts_72 tb_8 ⟨rfl, hyX16_put⟩ rfl rfl ⟨by decide, by decide⟩ (Nat.le_of_ble_eq_true rfl) dX16_send_22 ?_
  refine g_aload_n X (pc := 25) 0 rfl rfl dX16_send_25 ?_
  refine g_bipush X (pc := 26) (v := 8) dX16_send_26 (by decide) ?_
  refine g_iconst X (pc := 28) (v := 4) dX16_send_28 (by decide) ?_
  refine g_aload_n X (pc := 29) 0 rfl rfl dX16_send_29 ?_
  obtain ⟨v8, ev8, h⟩ := bd h
  refine g_getI X (pc := 30) fk_16_9 rfl rfl ev8 tb_1823 dX16_send_30 ?_
  obtain ⟨q9, eq9, h⟩ := bd h
  obtain ⟨M10, eM10, h⟩ := bd h
  refine g_callV X (pc := 33) (M' := M10) (ro := none) (c := 16) rfl (by decide) (as := [pI (8 : Int32), pI (4 : Int32), pI v8]) (as' := [pI v8, pI (4 : Int32), pI (8 : Int32)]) (st := []) eq9 (ctX16_put _ _ _ _ _ _ fu q9 (8 : Int32) (4 : Int32) v8 M7 _ eM10) tb_2095 tb_2092 tb_2094 ts_72 tb_8 ⟨rfl, hyX16_put⟩ rfl rfl ⟨by decide, by decide⟩ (Nat.le_of_ble_eq_true rfl) dX16_send_33 ?_
  refine g_aload_n X (pc := 36) 0 rfl rfl dX16_send_36 ?_
  refine g_bipush X (pc := 37) (v := 12) dX16_send_37 (by decide) ?_
  refine g_iconst X (pc := 39) (v := 2) dX16_send_39 (by decide) ?_
  refine g_iload_n X (pc := 40) 3 rfl rfl dX16_send_40 ?_
  obtain ⟨q11, eq11, h⟩ := bd h
  obtain ⟨M12, eM12, h⟩ := bd h
  refine g_callV X (pc := 41) (M' := M12) (ro := none) (c := 16) rfl (by decide) (as := [pI (12 : Int32), pI (2 : Int32), pI a3]) (as' := [pI a3, pI (2 : Int32), pI (12 : Int32)]) (st := []) eq11 (ctX16_put _ _ _ _ _ _ fu q11 (12 : Int32) (2 : Int32) a3 M10 _ eM12) tb_2095 tb_2092 tb_2094 ts_72 tb_8 ⟨rfl, hyX16_put⟩ rfl rfl ⟨by decide, by decide⟩ (Nat.le_of_ble_eq_true rfl) dX16_send_41 ?_
  refine g_bipush X (pc := 44) (v := 14) dX16_send_44 (by decide) ?_
  refine g_iload X (pc := 46) 4 rfl dX16_send_46 ?_
  refine g_iadd X (pc := 48) dX16_send_48 ?_
  refine g_istore X (pc := 49) [(5, pI ((14 : Int32) + a4)), (0, pR (some a0)), (1, pI a1), (2, pI a2), (3, pI a3), (4, pI a4)] (lt_n hn (by decide)) rfl dX16_send_49 ?_
  refine g_iload X (pc := 51) 0 rfl dX16_send_51 ?_
  refine g_istore X (pc := 53) [(6, pI ((14 : Int32) + a4)), (5, pI ((14 : Int32) + a4)), (0, pR (some a0)), (1, pI a1), (2, pI a2), (3, pI a3), (4, pI a4)] (lt_n hn (by decide)) rfl dX16_send_53 ?_
  refine g_sub [2, 1, 0] [(0, pR (some a0)), (5, pI ((14 : Int32) + a4)), (6, pI ((14 : Int32) + a4))] rfl ?_
  exact wX16_send_L55 X hE hn fu   fu a0 ((14 : Int32) + a4) ((14 : Int32) + a4) M12 h
theorem hyX16_send : yX16_send.cls ≠ "java/lang/invoke/MethodHandle" ∧ yX16_send.cls ≠ "java/lang/invoke/VarHandle" ∧ (parseMethodDescriptor yX16_send.desc).map (fun d => d.parameters.length) = some 4 := ⟨by decide +kernel, by decide +kernel, by decide +kernel⟩
theorem ctX16_send (l : Launch) (E : Nat → Nat) (D : va_G) (dA : Nat → ClassId) (lo : Nat) (H0 : Heap) (fu : Nat) (a0 : Nat) (a1 : Int32) (a2 : Int32) (a3 : Int32) (a4 : Int32) (M : Mm) (out : Mm) (h : fX16_send fu a0 a1 a2 a3 a4 M = some out) : Ct l E D dA lo H0 yX16_send cX16_send 8 none 1 24 [pR (some a0), pI a1, pI a2, pI a3, pI a4] M none out := by
  refine ct_of (by decide +kernel) (Nat.le_of_ble_eq_true rfl) ?_
  intro x hl he hd ha ho hh hn hin X hE
  exact wX16_send X hE hn fu a0 a1 a2 a3 a4 M h
/-! WebHostModel.sixteen(J)I -/
def fX16_sixteen_L2 (fu : Nat)  : Nat → Int64 → Mm → Option (Int32 × Mm)
  | 0, _, _ => none
  | n + 1, a2, M =>
    if (lg_cmp a2 (65535 : Int64)) ≤ 0 then (
    some ((Int64.toInt32 ((65535 : Int64) - a2)), M))
    else (
    (some ((a2 &&& (65535 : Int64)) + (a2 >>> (Int32.toInt64 (16 : Int32) &&& 63)))).bind fun v1 =>
    fX16_sixteen_L2 fu  n v1 M)
def fX16_sixteen (fu : Nat)  (a0 : Int64)  (M : Mm) : Option (Int32 × Mm) :=
    fX16_sixteen_L2 fu  fu a0 M
theorem dX16_sixteen_0 : decode cX16_sixteen 0 = .ok (.lload_n 0, 1) := by decide +kernel
theorem dX16_sixteen_1 : decode cX16_sixteen 1 = .ok (.lstore_n 2, 1) := by decide +kernel
theorem dX16_sixteen_2 : decode cX16_sixteen 2 = .ok (.lload_n 2, 1) := by decide +kernel
theorem dX16_sixteen_3 : decode cX16_sixteen 3 = .ok (.ldc2_w 169, 3) := by decide +kernel
theorem dX16_sixteen_6 : decode cX16_sixteen 6 = .ok (.lcmp, 1) := by decide +kernel
theorem dX16_sixteen_7 : decode cX16_sixteen 7 = .ok (.ifCond .le 17, 3) := by decide +kernel
theorem dX16_sixteen_10 : decode cX16_sixteen 10 = .ok (.lload_n 2, 1) := by decide +kernel
theorem dX16_sixteen_11 : decode cX16_sixteen 11 = .ok (.ldc2_w 169, 3) := by decide +kernel
theorem dX16_sixteen_14 : decode cX16_sixteen 14 = .ok (.land, 1) := by decide +kernel
theorem dX16_sixteen_15 : decode cX16_sixteen 15 = .ok (.lload_n 2, 1) := by decide +kernel
theorem dX16_sixteen_16 : decode cX16_sixteen 16 = .ok (.bipush 16, 2) := by decide +kernel
theorem dX16_sixteen_18 : decode cX16_sixteen 18 = .ok (.lshr, 1) := by decide +kernel
theorem dX16_sixteen_19 : decode cX16_sixteen 19 = .ok (.ladd, 1) := by decide +kernel
theorem dX16_sixteen_20 : decode cX16_sixteen 20 = .ok (.lstore_n 2, 1) := by decide +kernel
theorem dX16_sixteen_21 : decode cX16_sixteen 21 = .ok (.goto (-19), 3) := by decide +kernel
theorem dX16_sixteen_24 : decode cX16_sixteen 24 = .ok (.ldc2_w 169, 3) := by decide +kernel
theorem dX16_sixteen_27 : decode cX16_sixteen 27 = .ok (.lload_n 2, 1) := by decide +kernel
theorem dX16_sixteen_28 : decode cX16_sixteen 28 = .ok (.lsub, 1) := by decide +kernel
theorem dX16_sixteen_29 : decode cX16_sixteen 29 = .ok (.l2i, 1) := by decide +kernel
theorem dX16_sixteen_30 : decode cX16_sixteen 30 = .ok (.ireturn, 1) := by decide +kernel
theorem wX16_sixteen_L2 {x : GX} {n0 sl0 : Nat} (X : Cx x cX16_sixteen RX16 (some .int) n0 sl0 0 0) {out : Int32 × Mm} (hE : Ends x n0 sl0 (some (pI out.1)) out.2) (hn : xn x = 4) (fu : Nat)   : ∀ (n : Nat) (a2 : Int64)  (M : Mm), fX16_sixteen_L2 fu  n a2 M = some out → Gw x M 2 [(2, pL a2)] [] := by
  intro n
  induction n with
  | zero =>
    intro a2 M h
    have h : (none : Option (Int32 × Mm)) = some out := h
    cases h
  | succ n ih =>
    intro a2 M h
    rw [fX16_sixteen_L2] at h
    refine g_lload_n X (pc := 2) 0 rfl rfl dX16_sixteen_2 ?_
    refine g_ldc2 X (pc := 3) tb_2129 dX16_sixteen_3 ?_
    refine g_lcmp X (pc := 6) dX16_sixteen_6 ?_
    refine g_if_le X (pc := 7) (tgt := 24) dX16_sixteen_7 (by decide) (fun hc => ?_) (fun hc => ?_)
    · have h := (if_pos hc).symm.trans h
      refine g_ldc2 X (pc := 24) tb_2129 dX16_sixteen_24 ?_
      refine g_lload_n X (pc := 27) 0 rfl rfl dX16_sixteen_27 ?_
      refine g_lsub X (pc := 28) dX16_sixteen_28 ?_
      refine g_l2i X (pc := 29) dX16_sixteen_29 ?_
      obtain rfl := Option.some.inj h
      exact g_ireturn X hE dX16_sixteen_30
    · have h := (if_neg hc).symm.trans h
      refine g_lload_n X (pc := 10) 0 rfl rfl dX16_sixteen_10 ?_
      refine g_ldc2 X (pc := 11) tb_2129 dX16_sixteen_11 ?_
      refine g_land X (pc := 14) dX16_sixteen_14 ?_
      refine g_lload_n X (pc := 15) 0 rfl rfl dX16_sixteen_15 ?_
      refine g_bipush X (pc := 16) (v := 16) dX16_sixteen_16 (by decide) ?_
      refine g_lshr X (pc := 18) dX16_sixteen_18 ?_
      refine g_ladd X (pc := 19) dX16_sixteen_19 ?_
      obtain ⟨v1, ev1, h⟩ := bd h
      refine g_nmJ ev1 ?_
      refine g_lstore_n X (pc := 20) [(2, pL v1)] rfl (lt_n hn (by decide)) rfl dX16_sixteen_20 ?_
      refine g_goto X (pc := 21) (tgt := 2) dX16_sixteen_21 (by decide) ?_
      exact ih v1 M h
theorem wX16_sixteen {x : GX} {n0 sl0 : Nat} (X : Cx x cX16_sixteen RX16 (some .int) n0 sl0 0 0) {out : Int32 × Mm} (hE : Ends x n0 sl0 (some (pI out.1)) out.2) (hn : xn x = 4) (fu : Nat)   (a0 : Int64)  (M : Mm) (h : fX16_sixteen fu  a0 M = some out) : Gw x M 0 [(0, pL a0)] [] := by
  unfold fX16_sixteen at h
  refine g_lload_n X (pc := 0) 0 rfl rfl dX16_sixteen_0 ?_
  refine g_lstore_n X (pc := 1) [(2, pL a0), (0, pL a0)] rfl (lt_n hn (by decide)) rfl dX16_sixteen_1 ?_
  refine g_sub [0] [(2, pL a0)] rfl ?_
  exact wX16_sixteen_L2 X hE hn fu   fu a0 M h
theorem hyX16_sixteen : yX16_sixteen.cls ≠ "java/lang/invoke/MethodHandle" ∧ yX16_sixteen.cls ≠ "java/lang/invoke/VarHandle" ∧ (parseMethodDescriptor yX16_sixteen.desc).map (fun d => d.parameters.length) = some 1 := ⟨by decide +kernel, by decide +kernel, by decide +kernel⟩
theorem ctX16_sixteen (l : Launch) (E : Nat → Nat) (D : va_G) (dA : Nat → ClassId) (lo : Nat) (H0 : Heap) (fu : Nat) (a0 : Int64) (M : Mm) (out : Int32 × Mm) (h : fX16_sixteen fu a0 M = some out) : Ct l E D dA lo H0 yX16_sixteen cX16_sixteen 4 (some .int) 0 0 [pL a0] M (some (pI out.1)) out.2 := by
  refine ct_of (by decide +kernel) (Nat.le_of_ble_eq_true rfl) ?_
  intro x hl he hd ha ho hh hn hin X hE
  exact wX16_sixteen X hE hn fu a0 M h
/-! WebHostModel.added([BIIJ)J -/
def fX16_added_L37 (fu : Nat) (k6 : Option Nat → Int32 → Int32 → Int64 → Int32 → Mm → Option (Int64 × Mm)) (a0 : Option Nat) (a1 : Int32) (a2 : Int32) (a7 : Int32) (s0 : Int64) (s1 : Int32) (s2 : Int32) (M : Mm) : Option (Int64 × Mm) :=
    (some (s0 + (Int32.toInt64 (s1 <<< (s2 &&& 31))))).bind fun v1 =>
    k6 a0 a1 a2 v1 (a7 + (1 : Int32)) M
def fX16_added_L6 (fu : Nat)  : Nat → Option Nat → Int32 → Int32 → Int64 → Int32 → Mm → Option (Int64 × Mm)
  | 0, _, _, _, _, _, _ => none
  | n + 1, a0, a1, a2, a5, a7, M =>
    if a2 ≤ a7 then (
    some (a5, M))
    else (
    (gA M 100 a0 (a1 + a7)).bind fun v1 =>
    if (irm a7 (2 : Int32)) = 0 then (
    fX16_added_L37 fu (fun b0 b1 b2 b5 b7 M => fX16_added_L6 fu  n b0 b1 b2 b5 b7 M) a0 a1 a2 a7 a5 (v1 &&& (255 : Int32)) (8 : Int32) M)
    else (
    fX16_added_L37 fu (fun b0 b1 b2 b5 b7 M => fX16_added_L6 fu  n b0 b1 b2 b5 b7 M) a0 a1 a2 a7 a5 (v1 &&& (255 : Int32)) (0 : Int32) M))
def fX16_added (fu : Nat)  (a0 : Option Nat) (a1 : Int32) (a2 : Int32) (a3 : Int64)  (M : Mm) : Option (Int64 × Mm) :=
    fX16_added_L6 fu  fu a0 a1 a2 a3 (0 : Int32) M
theorem dX16_added_0 : decode cX16_added 0 = .ok (.lload_n 3, 1) := by decide +kernel
theorem dX16_added_1 : decode cX16_added 1 = .ok (.lstore 5, 2) := by decide +kernel
theorem dX16_added_3 : decode cX16_added 3 = .ok (.iconst 0, 1) := by decide +kernel
theorem dX16_added_4 : decode cX16_added 4 = .ok (.istore 7, 2) := by decide +kernel
theorem dX16_added_6 : decode cX16_added 6 = .ok (.iload 7, 2) := by decide +kernel
theorem dX16_added_8 : decode cX16_added 8 = .ok (.iload_n 2, 1) := by decide +kernel
theorem dX16_added_9 : decode cX16_added 9 = .ok (.if_icmp .ge 39, 3) := by decide +kernel
theorem dX16_added_12 : decode cX16_added 12 = .ok (.lload 5, 2) := by decide +kernel
theorem dX16_added_14 : decode cX16_added 14 = .ok (.aload_n 0, 1) := by decide +kernel
theorem dX16_added_15 : decode cX16_added 15 = .ok (.iload_n 1, 1) := by decide +kernel
theorem dX16_added_16 : decode cX16_added 16 = .ok (.iload 7, 2) := by decide +kernel
theorem dX16_added_18 : decode cX16_added 18 = .ok (.iadd, 1) := by decide +kernel
theorem dX16_added_19 : decode cX16_added 19 = .ok (.baload, 1) := by decide +kernel
theorem dX16_added_20 : decode cX16_added 20 = .ok (.sipush 255, 3) := by decide +kernel
theorem dX16_added_23 : decode cX16_added 23 = .ok (.iand, 1) := by decide +kernel
theorem dX16_added_24 : decode cX16_added 24 = .ok (.iload 7, 2) := by decide +kernel
theorem dX16_added_26 : decode cX16_added 26 = .ok (.iconst 2, 1) := by decide +kernel
theorem dX16_added_27 : decode cX16_added 27 = .ok (.irem, 1) := by decide +kernel
theorem dX16_added_28 : decode cX16_added 28 = .ok (.ifCond .ne 8, 3) := by decide +kernel
theorem dX16_added_31 : decode cX16_added 31 = .ok (.bipush 8, 2) := by decide +kernel
theorem dX16_added_33 : decode cX16_added 33 = .ok (.goto 4, 3) := by decide +kernel
theorem dX16_added_36 : decode cX16_added 36 = .ok (.iconst 0, 1) := by decide +kernel
theorem dX16_added_37 : decode cX16_added 37 = .ok (.ishl, 1) := by decide +kernel
theorem dX16_added_38 : decode cX16_added 38 = .ok (.i2l, 1) := by decide +kernel
theorem dX16_added_39 : decode cX16_added 39 = .ok (.ladd, 1) := by decide +kernel
theorem dX16_added_40 : decode cX16_added 40 = .ok (.lstore 5, 2) := by decide +kernel
theorem dX16_added_42 : decode cX16_added 42 = .ok (.iinc 7 1, 3) := by decide +kernel
theorem dX16_added_45 : decode cX16_added 45 = .ok (.goto (-39), 3) := by decide +kernel
theorem dX16_added_48 : decode cX16_added 48 = .ok (.lload 5, 2) := by decide +kernel
theorem dX16_added_50 : decode cX16_added 50 = .ok (.lreturn, 1) := by decide +kernel
theorem wX16_added_L37 {x : GX} {n0 sl0 : Nat} (X : Cx x cX16_added RX16 (some .long) n0 sl0 0 0) {out : Int64 × Mm} (hE : Ends x n0 sl0 (some (pL out.1)) out.2) (hn : xn x = 8) (fu : Nat) (k6 : Option Nat → Int32 → Int32 → Int64 → Int32 → Mm → Option (Int64 × Mm)) (hk6 : ∀ (b0 : Option Nat) (b1 : Int32) (b2 : Int32) (b5 : Int64) (b7 : Int32)  (M : Mm), k6 b0 b1 b2 b5 b7 M = some out → Gw x M 6 [(0, pR b0), (1, pI b1), (2, pI b2), (5, pL b5), (7, pI b7)] []) (a0 : Option Nat) (a1 : Int32) (a2 : Int32) (a7 : Int32) (s0 : Int64) (s1 : Int32) (s2 : Int32) (M : Mm) (h : fX16_added_L37 fu k6 a0 a1 a2 a7 s0 s1 s2 M = some out) : Gw x M 37 [(0, pR a0), (1, pI a1), (2, pI a2), (7, pI a7)] [pI s2, pI s1, pL s0] := by
  unfold fX16_added_L37 at h
  refine g_ishl X (pc := 37) dX16_added_37 ?_
  refine g_i2l X (pc := 38) dX16_added_38 ?_
  refine g_ladd X (pc := 39) dX16_added_39 ?_
  obtain ⟨v1, ev1, h⟩ := bd h
  refine g_nmJ ev1 ?_
  refine g_lstore X (pc := 40) [(5, pL v1), (0, pR a0), (1, pI a1), (2, pI a2), (7, pI a7)] (lt_n hn (by decide)) rfl dX16_added_40 ?_
  refine g_iinc X (pc := 42) 4 [(7, pI (a7 + (1 : Int32))), (5, pL v1), (0, pR a0), (1, pI a1), (2, pI a2)] rfl (iinc_e (by decide)) (lt_n hn (by decide)) rfl dX16_added_42 ?_
  refine g_goto X (pc := 45) (tgt := 6) dX16_added_45 (by decide) ?_
  refine g_sub [2, 3, 4, 1, 0] [(0, pR a0), (1, pI a1), (2, pI a2), (5, pL v1), (7, pI (a7 + (1 : Int32)))] rfl ?_
  exact hk6 a0 a1 a2 v1 (a7 + (1 : Int32)) M h
theorem wX16_added_L6 {x : GX} {n0 sl0 : Nat} (X : Cx x cX16_added RX16 (some .long) n0 sl0 0 0) {out : Int64 × Mm} (hE : Ends x n0 sl0 (some (pL out.1)) out.2) (hn : xn x = 8) (fu : Nat)   : ∀ (n : Nat) (a0 : Option Nat) (a1 : Int32) (a2 : Int32) (a5 : Int64) (a7 : Int32)  (M : Mm), fX16_added_L6 fu  n a0 a1 a2 a5 a7 M = some out → Gw x M 6 [(0, pR a0), (1, pI a1), (2, pI a2), (5, pL a5), (7, pI a7)] [] := by
  intro n
  induction n with
  | zero =>
    intro a0 a1 a2 a5 a7 M h
    have h : (none : Option (Int64 × Mm)) = some out := h
    cases h
  | succ n ih =>
    intro a0 a1 a2 a5 a7 M h
    rw [fX16_added_L6] at h
    refine g_iload X (pc := 6) 4 rfl dX16_added_6 ?_
    refine g_iload_n X (pc := 8) 2 rfl rfl dX16_added_8 ?_
    refine g_icmp_ge X (pc := 9) (tgt := 48) dX16_added_9 (by decide) (fun hc => ?_) (fun hc => ?_)
    · have h := (if_pos hc).symm.trans h
      refine g_lload X (pc := 48) 3 rfl dX16_added_48 ?_
      obtain rfl := Option.some.inj h
      exact g_lreturn X hE dX16_added_50
    · have h := (if_neg hc).symm.trans h
      refine g_lload X (pc := 12) 3 rfl dX16_added_12 ?_
      refine g_aload_n X (pc := 14) 0 rfl rfl dX16_added_14 ?_
      refine g_iload_n X (pc := 15) 1 rfl rfl dX16_added_15 ?_
      refine g_iload X (pc := 16) 4 rfl dX16_added_16 ?_
      refine g_iadd X (pc := 18) dX16_added_18 ?_
      obtain ⟨v1, ev1, h⟩ := bd h
      refine g_baload X (pc := 19) ev1 dX16_added_19 ?_
      refine g_sipush X (pc := 20) (v := 255) dX16_added_20 (by decide) ?_
      refine g_iand X (pc := 23) dX16_added_23 ?_
      refine g_iload X (pc := 24) 4 rfl dX16_added_24 ?_
      refine g_iconst X (pc := 26) (v := 2) dX16_added_26 (by decide) ?_
      refine g_irem X (pc := 27) (by decide) dX16_added_27 ?_
      refine g_if_ne X (pc := 28) (tgt := 36) dX16_added_28 (by decide) (fun hc => ?_) (fun hc => ?_)
      · have h := (if_neg hc).symm.trans h
        refine g_iconst X (pc := 36) (v := 0) dX16_added_36 (by decide) ?_
        refine g_sub [0, 1, 2, 4] [(0, pR a0), (1, pI a1), (2, pI a2), (7, pI a7)] rfl ?_
        exact wX16_added_L37 X hE hn fu (fun b0 b1 b2 b5 b7 M => fX16_added_L6 fu  n b0 b1 b2 b5 b7 M) ih a0 a1 a2 a7 a5 (v1 &&& (255 : Int32)) (0 : Int32) M h
      · have h := (if_pos hc).symm.trans h
        refine g_bipush X (pc := 31) (v := 8) dX16_added_31 (by decide) ?_
        refine g_goto X (pc := 33) (tgt := 37) dX16_added_33 (by decide) ?_
        refine g_sub [0, 1, 2, 4] [(0, pR a0), (1, pI a1), (2, pI a2), (7, pI a7)] rfl ?_
        exact wX16_added_L37 X hE hn fu (fun b0 b1 b2 b5 b7 M => fX16_added_L6 fu  n b0 b1 b2 b5 b7 M) ih a0 a1 a2 a7 a5 (v1 &&& (255 : Int32)) (8 : Int32) M h
theorem wX16_added {x : GX} {n0 sl0 : Nat} (X : Cx x cX16_added RX16 (some .long) n0 sl0 0 0) {out : Int64 × Mm} (hE : Ends x n0 sl0 (some (pL out.1)) out.2) (hn : xn x = 8) (fu : Nat)   (a0 : Option Nat) (a1 : Int32) (a2 : Int32) (a3 : Int64)  (M : Mm) (h : fX16_added fu  a0 a1 a2 a3 M = some out) : Gw x M 0 [(0, pR a0), (1, pI a1), (2, pI a2), (3, pL a3)] [] := by
  unfold fX16_added at h
  refine g_lload_n X (pc := 0) 3 rfl rfl dX16_added_0 ?_
  refine g_lstore X (pc := 1) [(5, pL a3), (0, pR a0), (1, pI a1), (2, pI a2), (3, pL a3)] (lt_n hn (by decide)) rfl dX16_added_1 ?_
  refine g_iconst X (pc := 3) (v := 0) dX16_added_3 (by decide) ?_
  refine g_istore X (pc := 4) [(7, pI (0 : Int32)), (5, pL a3), (0, pR a0), (1, pI a1), (2, pI a2), (3, pL a3)] (lt_n hn (by decide)) rfl dX16_added_4 ?_
  refine g_sub [2, 3, 4, 1, 0] [(0, pR a0), (1, pI a1), (2, pI a2), (5, pL a3), (7, pI (0 : Int32))] rfl ?_
  exact wX16_added_L6 X hE hn fu   fu a0 a1 a2 a3 (0 : Int32) M h
theorem hyX16_added : yX16_added.cls ≠ "java/lang/invoke/MethodHandle" ∧ yX16_added.cls ≠ "java/lang/invoke/VarHandle" ∧ (parseMethodDescriptor yX16_added.desc).map (fun d => d.parameters.length) = some 4 := ⟨by decide +kernel, by decide +kernel, by decide +kernel⟩
theorem ctX16_added (l : Launch) (E : Nat → Nat) (D : va_G) (dA : Nat → ClassId) (lo : Nat) (H0 : Heap) (fu : Nat) (a0 : Option Nat) (a1 : Int32) (a2 : Int32) (a3 : Int64) (M : Mm) (out : Int64 × Mm) (h : fX16_added fu a0 a1 a2 a3 M = some out) : Ct l E D dA lo H0 yX16_added cX16_added 8 (some .long) 0 0 [pR a0, pI a1, pI a2, pL a3] M (some (pL out.1)) out.2 := by
  refine ct_of (by decide +kernel) (Nat.le_of_ble_eq_true rfl) ?_
  intro x hl he hd ha ho hh hn hin X hE
  exact wX16_added X hE hn fu a0 a1 a2 a3 M h
/-! WebHostModel.entry(I)LWebHostModel$Entry; -/
def fX16_entry_L40 (fu : Nat) (k2 : Nat → Int32 → Int32 → Mm → Option (Option Nat × Mm)) (a0 : Nat) (a1 : Int32) (a2 : Int32)  (M : Mm) : Option (Option Nat × Mm) :=
    k2 a0 a1 (a2 + (1 : Int32)) M
def fX16_entry_L2 (fu : Nat)  : Nat → Nat → Int32 → Int32 → Mm → Option (Option Nat × Mm)
  | 0, _, _, _, _ => none
  | n + 1, a0, a1, a2, M =>
    if (16 : Int32) ≤ a2 then (
    some (none, M))
    else (
    (gR M 16 1050 (some a0)).bind fun v1 =>
    (gB M 124 v1 a2).bind fun v2 =>
    (gI M 14 896 v2).bind fun v3 =>
    if v3 = 0 then (
    fX16_entry_L40 fu (fun b0 b1 b2 M => fX16_entry_L2 fu  n b0 b1 b2 M) a0 a1 a2 M)
    else (
    (gR M 16 1050 (some a0)).bind fun v4 =>
    (gB M 124 v4 a2).bind fun v5 =>
    (gI M 14 897 v5).bind fun v6 =>
    if v6 = a1 then (
    (gR M 16 1050 (some a0)).bind fun v7 =>
    (gB M 124 v7 a2).bind fun v8 =>
    some (v8, M))
    else (
    fX16_entry_L40 fu (fun b0 b1 b2 M => fX16_entry_L2 fu  n b0 b1 b2 M) a0 a1 a2 M)))
def fX16_entry (fu : Nat)  (a0 : Nat) (a1 : Int32)  (M : Mm) : Option (Option Nat × Mm) :=
    fX16_entry_L2 fu  fu a0 a1 (0 : Int32) M
theorem dX16_entry_0 : decode cX16_entry 0 = .ok (.iconst 0, 1) := by decide +kernel
theorem dX16_entry_1 : decode cX16_entry 1 = .ok (.istore_n 2, 1) := by decide +kernel
theorem dX16_entry_2 : decode cX16_entry 2 = .ok (.iload_n 2, 1) := by decide +kernel
theorem dX16_entry_3 : decode cX16_entry 3 = .ok (.bipush 16, 2) := by decide +kernel
theorem dX16_entry_5 : decode cX16_entry 5 = .ok (.if_icmp .ge 41, 3) := by decide +kernel
theorem dX16_entry_8 : decode cX16_entry 8 = .ok (.aload_n 0, 1) := by decide +kernel
theorem dX16_entry_9 : decode cX16_entry 9 = .ok (.getfield 49, 3) := by decide +kernel
theorem dX16_entry_12 : decode cX16_entry 12 = .ok (.iload_n 2, 1) := by decide +kernel
theorem dX16_entry_13 : decode cX16_entry 13 = .ok (.aaload, 1) := by decide +kernel
theorem dX16_entry_14 : decode cX16_entry 14 = .ok (.getfield 155, 3) := by decide +kernel
theorem dX16_entry_17 : decode cX16_entry 17 = .ok (.ifCond .eq 23, 3) := by decide +kernel
theorem dX16_entry_20 : decode cX16_entry 20 = .ok (.aload_n 0, 1) := by decide +kernel
theorem dX16_entry_21 : decode cX16_entry 21 = .ok (.getfield 49, 3) := by decide +kernel
theorem dX16_entry_24 : decode cX16_entry 24 = .ok (.iload_n 2, 1) := by decide +kernel
theorem dX16_entry_25 : decode cX16_entry 25 = .ok (.aaload, 1) := by decide +kernel
theorem dX16_entry_26 : decode cX16_entry 26 = .ok (.getfield 171, 3) := by decide +kernel
theorem dX16_entry_29 : decode cX16_entry 29 = .ok (.iload_n 1, 1) := by decide +kernel
theorem dX16_entry_30 : decode cX16_entry 30 = .ok (.if_icmp .ne 10, 3) := by decide +kernel
theorem dX16_entry_33 : decode cX16_entry 33 = .ok (.aload_n 0, 1) := by decide +kernel
theorem dX16_entry_34 : decode cX16_entry 34 = .ok (.getfield 49, 3) := by decide +kernel
theorem dX16_entry_37 : decode cX16_entry 37 = .ok (.iload_n 2, 1) := by decide +kernel
theorem dX16_entry_38 : decode cX16_entry 38 = .ok (.aaload, 1) := by decide +kernel
theorem dX16_entry_39 : decode cX16_entry 39 = .ok (.areturn, 1) := by decide +kernel
theorem dX16_entry_40 : decode cX16_entry 40 = .ok (.iinc 2 1, 3) := by decide +kernel
theorem dX16_entry_43 : decode cX16_entry 43 = .ok (.goto (-41), 3) := by decide +kernel
theorem dX16_entry_46 : decode cX16_entry 46 = .ok (.aconst_null, 1) := by decide +kernel
theorem dX16_entry_47 : decode cX16_entry 47 = .ok (.areturn, 1) := by decide +kernel
theorem wX16_entry_L40 {x : GX} {n0 sl0 : Nat} (X : Cx x cX16_entry RX16 (some (.object "WebHostModel$Entry")) n0 sl0 0 0) {out : Option Nat × Mm} (hE : Ends x n0 sl0 (some (pR out.1)) out.2) (hn : xn x = 3) (fu : Nat) (k2 : Nat → Int32 → Int32 → Mm → Option (Option Nat × Mm)) (hk2 : ∀ (b0 : Nat) (b1 : Int32) (b2 : Int32)  (M : Mm), k2 b0 b1 b2 M = some out → Gw x M 2 [(0, pR (some b0)), (1, pI b1), (2, pI b2)] []) (a0 : Nat) (a1 : Int32) (a2 : Int32)  (M : Mm) (h : fX16_entry_L40 fu k2 a0 a1 a2 M = some out) : Gw x M 40 [(0, pR (some a0)), (1, pI a1), (2, pI a2)] [] := by
  unfold fX16_entry_L40 at h
  refine g_iinc X (pc := 40) 2 [(2, pI (a2 + (1 : Int32))), (0, pR (some a0)), (1, pI a1)] rfl (iinc_e (by decide)) (lt_n hn (by decide)) rfl dX16_entry_40 ?_
  refine g_goto X (pc := 43) (tgt := 2) dX16_entry_43 (by decide) ?_
  refine g_sub [1, 2, 0] [(0, pR (some a0)), (1, pI a1), (2, pI (a2 + (1 : Int32)))] rfl ?_
  exact hk2 a0 a1 (a2 + (1 : Int32)) M h
theorem wX16_entry_L2 {x : GX} {n0 sl0 : Nat} (X : Cx x cX16_entry RX16 (some (.object "WebHostModel$Entry")) n0 sl0 0 0) {out : Option Nat × Mm} (hE : Ends x n0 sl0 (some (pR out.1)) out.2) (hn : xn x = 3) (fu : Nat)   : ∀ (n : Nat) (a0 : Nat) (a1 : Int32) (a2 : Int32)  (M : Mm), fX16_entry_L2 fu  n a0 a1 a2 M = some out → Gw x M 2 [(0, pR (some a0)), (1, pI a1), (2, pI a2)] [] := by
  intro n
  induction n with
  | zero =>
    intro a0 a1 a2 M h
    have h : (none : Option (Option Nat × Mm)) = some out := h
    cases h
  | succ n ih =>
    intro a0 a1 a2 M h
    rw [fX16_entry_L2] at h
    refine g_iload_n X (pc := 2) 2 rfl rfl dX16_entry_2 ?_
    refine g_bipush X (pc := 3) (v := 16) dX16_entry_3 (by decide) ?_
    refine g_icmp_ge X (pc := 5) (tgt := 46) dX16_entry_5 (by decide) (fun hc => ?_) (fun hc => ?_)
    · have h := (if_pos hc).symm.trans h
      refine g_null X (pc := 46) dX16_entry_46 ?_
      obtain rfl := Option.some.inj h
      exact g_areturn X rfl (Or.inl ⟨_, rfl⟩) hE dX16_entry_47
    · have h := (if_neg hc).symm.trans h
      refine g_aload_n X (pc := 8) 0 rfl rfl dX16_entry_8 ?_
      obtain ⟨v1, ev1, h⟩ := bd h
      refine g_getR X (pc := 9) fk_16_26 rfl rfl ev1 tb_1840 dX16_entry_9 ?_
      refine g_iload_n X (pc := 12) 2 rfl rfl dX16_entry_12 ?_
      obtain ⟨v2, ev2, h⟩ := bd h
      refine g_aaload X (pc := 13) (k := 6) rfl rfl (by decide) ev2 dX16_entry_13 ?_
      obtain ⟨v3, ev3, h⟩ := bd h
      refine g_getI X (pc := 14) fk_14_0 rfl rfl ev3 tb_1735 dX16_entry_14 ?_
      refine g_if_eq X (pc := 17) (tgt := 40) dX16_entry_17 (by decide) (fun hc => ?_) (fun hc => ?_)
      · have h := (if_pos hc).symm.trans h
        exact wX16_entry_L40 X hE hn fu (fun b0 b1 b2 M => fX16_entry_L2 fu  n b0 b1 b2 M) ih a0 a1 a2 M h
      · have h := (if_neg hc).symm.trans h
        refine g_aload_n X (pc := 20) 0 rfl rfl dX16_entry_20 ?_
        obtain ⟨v4, ev4, h⟩ := bd h
        refine g_getR X (pc := 21) fk_16_26 rfl rfl ev4 tb_1840 dX16_entry_21 ?_
        refine g_iload_n X (pc := 24) 2 rfl rfl dX16_entry_24 ?_
        obtain ⟨v5, ev5, h⟩ := bd h
        refine g_aaload X (pc := 25) (k := 6) rfl rfl (by decide) ev5 dX16_entry_25 ?_
        obtain ⟨v6, ev6, h⟩ := bd h
        refine g_getI X (pc := 26) fk_14_1 rfl rfl ev6 tb_1736 dX16_entry_26 ?_
        refine g_iload_n X (pc := 29) 1 rfl rfl dX16_entry_29 ?_
        refine g_icmp_ne X (pc := 30) (tgt := 40) dX16_entry_30 (by decide) (fun hc => ?_) (fun hc => ?_)
        · have h := (if_neg hc).symm.trans h
          exact wX16_entry_L40 X hE hn fu (fun b0 b1 b2 M => fX16_entry_L2 fu  n b0 b1 b2 M) ih a0 a1 a2 M h
        · have h := (if_pos hc).symm.trans h
          refine g_aload_n X (pc := 33) 0 rfl rfl dX16_entry_33 ?_
          obtain ⟨v7, ev7, h⟩ := bd h
          refine g_getR X (pc := 34) fk_16_26 rfl rfl ev7 tb_1840 dX16_entry_34 ?_
          refine g_iload_n X (pc := 37) 2 rfl rfl dX16_entry_37 ?_
          obtain ⟨v8, ev8, h⟩ := bd h
          refine g_aaload X (pc := 38) (k := 6) rfl rfl (by decide) ev8 dX16_entry_38 ?_
          obtain rfl := Option.some.inj h
          exact g_areturn X rfl (Or.inl ⟨_, rfl⟩) hE dX16_entry_39
theorem wX16_entry {x : GX} {n0 sl0 : Nat} (X : Cx x cX16_entry RX16 (some (.object "WebHostModel$Entry")) n0 sl0 0 0) {out : Option Nat × Mm} (hE : Ends x n0 sl0 (some (pR out.1)) out.2) (hn : xn x = 3) (fu : Nat)   (a0 : Nat) (a1 : Int32)  (M : Mm) (h : fX16_entry fu  a0 a1 M = some out) : Gw x M 0 [(0, pR (some a0)), (1, pI a1)] [] := by
  unfold fX16_entry at h
  refine g_iconst X (pc := 0) (v := 0) dX16_entry_0 (by decide) ?_
  refine g_istore_n X (pc := 1) [(2, pI (0 : Int32)), (0, pR (some a0)), (1, pI a1)] rfl (lt_n hn (by decide)) rfl dX16_entry_1 ?_
  refine g_sub [1, 2, 0] [(0, pR (some a0)), (1, pI a1), (2, pI (0 : Int32))] rfl ?_
  exact wX16_entry_L2 X hE hn fu   fu a0 a1 (0 : Int32) M h
theorem hyX16_entry : yX16_entry.cls ≠ "java/lang/invoke/MethodHandle" ∧ yX16_entry.cls ≠ "java/lang/invoke/VarHandle" ∧ (parseMethodDescriptor yX16_entry.desc).map (fun d => d.parameters.length) = some 1 := ⟨by decide +kernel, by decide +kernel, by decide +kernel⟩
theorem ctX16_entry (l : Launch) (E : Nat → Nat) (D : va_G) (dA : Nat → ClassId) (lo : Nat) (H0 : Heap) (fu : Nat) (a0 : Nat) (a1 : Int32) (M : Mm) (out : Option Nat × Mm) (h : fX16_entry fu a0 a1 M = some out) : Ct l E D dA lo H0 yX16_entry cX16_entry 3 (some (.object "WebHostModel$Entry")) 0 0 [pR (some a0), pI a1] M (some (pR out.1)) out.2 := by
  refine ct_of (by decide +kernel) (Nat.le_of_ble_eq_true rfl) ?_
  intro x hl he hd ha ho hh hn hin X hE
  exact wX16_entry X hE hn fu a0 a1 M h
/-! WebHostModel.counting(I)LWebHostModel$Entry; -/
def fX16_counting (fu : Nat)  (a0 : Nat) (a1 : Int32)  (M : Mm) : Option (Option Nat × Mm) :=
    (rc M 16 (some a0)).bind fun q1 =>
    b2 (fX16_entry fu q1 a1 M) fun v3 M2 =>
    if v3 = none then (
    some (none, M2))
    else (
    (gI M2 16 1034 (some a0)).bind fun v4 =>
    (gI M2 14 900 v3).bind fun v5 =>
    if (60000 : Int32) ≤ (v4 - v5) then (
    some (none, M2))
    else (
    some (v3, M2)))
theorem dX16_counting_0 : decode cX16_counting 0 = .ok (.aload_n 0, 1) := by decide +kernel
theorem dX16_counting_1 : decode cX16_counting 1 = .ok (.iload_n 1, 1) := by decide +kernel
theorem dX16_counting_2 : decode cX16_counting 2 = .ok (.invokevirtual 174, 3) := by decide +kernel
theorem dX16_counting_5 : decode cX16_counting 5 = .ok (.astore_n 2, 1) := by decide +kernel
theorem dX16_counting_6 : decode cX16_counting 6 = .ok (.aload_n 2, 1) := by decide +kernel
theorem dX16_counting_7 : decode cX16_counting 7 = .ok (.ifnull 21, 3) := by decide +kernel
theorem dX16_counting_10 : decode cX16_counting 10 = .ok (.aload_n 0, 1) := by decide +kernel
theorem dX16_counting_11 : decode cX16_counting 11 = .ok (.getfield 134, 3) := by decide +kernel
theorem dX16_counting_14 : decode cX16_counting 14 = .ok (.aload_n 2, 1) := by decide +kernel
theorem dX16_counting_15 : decode cX16_counting 15 = .ok (.getfield 178, 3) := by decide +kernel
theorem dX16_counting_18 : decode cX16_counting 18 = .ok (.isub, 1) := by decide +kernel
theorem dX16_counting_19 : decode cX16_counting 19 = .ok (.ldc 181, 2) := by decide +kernel
theorem dX16_counting_21 : decode cX16_counting 21 = .ok (.if_icmp .ge 7, 3) := by decide +kernel
theorem dX16_counting_24 : decode cX16_counting 24 = .ok (.aload_n 2, 1) := by decide +kernel
theorem dX16_counting_25 : decode cX16_counting 25 = .ok (.goto 4, 3) := by decide +kernel
theorem dX16_counting_28 : decode cX16_counting 28 = .ok (.aconst_null, 1) := by decide +kernel
theorem dX16_counting_29 : decode cX16_counting 29 = .ok (.areturn, 1) := by decide +kernel
theorem wX16_counting {x : GX} {n0 sl0 : Nat} (X : Cx x cX16_counting RX16 (some (.object "WebHostModel$Entry")) n0 sl0 1 22) {out : Option Nat × Mm} (hE : Ends x n0 sl0 (some (pR out.1)) out.2) (hn : xn x = 3) (fu : Nat)   (a0 : Nat) (a1 : Int32)  (M : Mm) (h : fX16_counting fu  a0 a1 M = some out) : Gw x M 0 [(0, pR (some a0)), (1, pI a1)] [] := by
  unfold fX16_counting at h
  refine g_aload_n X (pc := 0) 0 rfl rfl dX16_counting_0 ?_
  refine g_iload_n X (pc := 1) 1 rfl rfl dX16_counting_1 ?_
  obtain ⟨q1, eq1, h⟩ := bd h
  obtain ⟨v3, M2, eM2, h⟩ := b2d h
  refine g_callV X (pc := 2) (M' := M2) (ro := some (pR v3)) (c := 16) rfl (by decide) (as := [pI a1]) (as' := [pI a1]) (st := []) eq1 (ctX16_entry _ _ _ _ _ _ fu q1 a1 M _ eM2) tb_2145 tb_2142 tb_2144 ts_80 tb_8 ⟨rfl, hyX16_entry⟩ rfl rfl ⟨by decide, by decide⟩ (Nat.le_of_ble_eq_true rfl) dX16_counting_2 ?_
  refine g_astore_n X (pc := 5) [(2, pR v3), (0, pR (some a0)), (1, pI a1)] rfl (lt_n hn (by decide)) rfl dX16_counting_5 ?_
  refine g_aload_n X (pc := 6) 0 rfl rfl dX16_counting_6 ?_
  refine g_ifnull X (pc := 7) (tgt := 28) dX16_counting_7 (by decide) (fun hc => ?_) (fun hc => ?_)
  · have h := (if_pos hc).symm.trans h
    refine g_null X (pc := 28) dX16_counting_28 ?_
    obtain rfl := Option.some.inj h
    exact g_areturn X rfl (Or.inl ⟨_, rfl⟩) hE dX16_counting_29
  · have h := (if_neg hc).symm.trans h
    refine g_aload_n X (pc := 10) 1 rfl rfl dX16_counting_10 ?_
    obtain ⟨v4, ev4, h⟩ := bd h
    refine g_getI X (pc := 11) fk_16_10 rfl rfl ev4 tb_1824 dX16_counting_11 ?_
    refine g_aload_n X (pc := 14) 0 rfl rfl dX16_counting_14 ?_
    obtain ⟨v5, ev5, h⟩ := bd h
    refine g_getI X (pc := 15) fk_14_4 rfl rfl ev5 tb_1739 dX16_counting_15 ?_
    refine g_isub X (pc := 18) dX16_counting_18 ?_
    refine g_ldc X (pc := 19) tb_2146 dX16_counting_19 ?_
    refine g_icmp_ge X (pc := 21) (tgt := 28) dX16_counting_21 (by decide) (fun hc => ?_) (fun hc => ?_)
    · have h := (if_pos hc).symm.trans h
      refine g_null X (pc := 28) dX16_counting_28 ?_
      obtain rfl := Option.some.inj h
      exact g_areturn X rfl (Or.inl ⟨_, rfl⟩) hE dX16_counting_29
    · have h := (if_neg hc).symm.trans h
      refine g_aload_n X (pc := 24) 0 rfl rfl dX16_counting_24 ?_
      refine g_goto X (pc := 25) (tgt := 29) dX16_counting_25 (by decide) ?_
      obtain rfl := Option.some.inj h
      exact g_areturn X rfl (Or.inl ⟨_, rfl⟩) hE dX16_counting_29
theorem hyX16_counting : yX16_counting.cls ≠ "java/lang/invoke/MethodHandle" ∧ yX16_counting.cls ≠ "java/lang/invoke/VarHandle" ∧ (parseMethodDescriptor yX16_counting.desc).map (fun d => d.parameters.length) = some 1 := ⟨by decide +kernel, by decide +kernel, by decide +kernel⟩
theorem ctX16_counting (l : Launch) (E : Nat → Nat) (D : va_G) (dA : Nat → ClassId) (lo : Nat) (H0 : Heap) (fu : Nat) (a0 : Nat) (a1 : Int32) (M : Mm) (out : Option Nat × Mm) (h : fX16_counting fu a0 a1 M = some out) : Ct l E D dA lo H0 yX16_counting cX16_counting 3 (some (.object "WebHostModel$Entry")) 1 22 [pR (some a0), pI a1] M (some (pR out.1)) out.2 := by
  refine ct_of (by decide +kernel) (Nat.le_of_ble_eq_true rfl) ?_
  intro x hl he hd ha ho hh hn hin X hE
  exact wX16_counting X hE hn fu a0 a1 M h
/-! WebHostModel.packet(I)LWebHostModel$Packet; -/
def fX16_packet_L40 (fu : Nat) (k2 : Nat → Int32 → Int32 → Mm → Option (Option Nat × Mm)) (a0 : Nat) (a1 : Int32) (a2 : Int32)  (M : Mm) : Option (Option Nat × Mm) :=
    k2 a0 a1 (a2 + (1 : Int32)) M
def fX16_packet_L2 (fu : Nat)  : Nat → Nat → Int32 → Int32 → Mm → Option (Option Nat × Mm)
  | 0, _, _, _, _ => none
  | n + 1, a0, a1, a2, M =>
    if (8 : Int32) ≤ a2 then (
    some (none, M))
    else (
    (gR M 16 1051 (some a0)).bind fun v1 =>
    (gB M 125 v1 a2).bind fun v2 =>
    (gI M 15 960 v2).bind fun v3 =>
    if v3 = 0 then (
    fX16_packet_L40 fu (fun b0 b1 b2 M => fX16_packet_L2 fu  n b0 b1 b2 M) a0 a1 a2 M)
    else (
    (gR M 16 1051 (some a0)).bind fun v4 =>
    (gB M 125 v4 a2).bind fun v5 =>
    (gI M 15 961 v5).bind fun v6 =>
    if v6 = a1 then (
    (gR M 16 1051 (some a0)).bind fun v7 =>
    (gB M 125 v7 a2).bind fun v8 =>
    some (v8, M))
    else (
    fX16_packet_L40 fu (fun b0 b1 b2 M => fX16_packet_L2 fu  n b0 b1 b2 M) a0 a1 a2 M)))
def fX16_packet (fu : Nat)  (a0 : Nat) (a1 : Int32)  (M : Mm) : Option (Option Nat × Mm) :=
    fX16_packet_L2 fu  fu a0 a1 (0 : Int32) M
theorem dX16_packet_0 : decode cX16_packet 0 = .ok (.iconst 0, 1) := by decide +kernel
theorem dX16_packet_1 : decode cX16_packet 1 = .ok (.istore_n 2, 1) := by decide +kernel
theorem dX16_packet_2 : decode cX16_packet 2 = .ok (.iload_n 2, 1) := by decide +kernel
theorem dX16_packet_3 : decode cX16_packet 3 = .ok (.bipush 8, 2) := by decide +kernel
theorem dX16_packet_5 : decode cX16_packet 5 = .ok (.if_icmp .ge 41, 3) := by decide +kernel
theorem dX16_packet_8 : decode cX16_packet 8 = .ok (.aload_n 0, 1) := by decide +kernel
theorem dX16_packet_9 : decode cX16_packet 9 = .ok (.getfield 55, 3) := by decide +kernel
theorem dX16_packet_12 : decode cX16_packet 12 = .ok (.iload_n 2, 1) := by decide +kernel
theorem dX16_packet_13 : decode cX16_packet 13 = .ok (.aaload, 1) := by decide +kernel
theorem dX16_packet_14 : decode cX16_packet 14 = .ok (.getfield 158, 3) := by decide +kernel
theorem dX16_packet_17 : decode cX16_packet 17 = .ok (.ifCond .eq 23, 3) := by decide +kernel
theorem dX16_packet_20 : decode cX16_packet 20 = .ok (.aload_n 0, 1) := by decide +kernel
theorem dX16_packet_21 : decode cX16_packet 21 = .ok (.getfield 55, 3) := by decide +kernel
theorem dX16_packet_24 : decode cX16_packet 24 = .ok (.iload_n 2, 1) := by decide +kernel
theorem dX16_packet_25 : decode cX16_packet 25 = .ok (.aaload, 1) := by decide +kernel
theorem dX16_packet_26 : decode cX16_packet 26 = .ok (.getfield 182, 3) := by decide +kernel
theorem dX16_packet_29 : decode cX16_packet 29 = .ok (.iload_n 1, 1) := by decide +kernel
theorem dX16_packet_30 : decode cX16_packet 30 = .ok (.if_icmp .ne 10, 3) := by decide +kernel
theorem dX16_packet_33 : decode cX16_packet 33 = .ok (.aload_n 0, 1) := by decide +kernel
theorem dX16_packet_34 : decode cX16_packet 34 = .ok (.getfield 55, 3) := by decide +kernel
theorem dX16_packet_37 : decode cX16_packet 37 = .ok (.iload_n 2, 1) := by decide +kernel
theorem dX16_packet_38 : decode cX16_packet 38 = .ok (.aaload, 1) := by decide +kernel
theorem dX16_packet_39 : decode cX16_packet 39 = .ok (.areturn, 1) := by decide +kernel
theorem dX16_packet_40 : decode cX16_packet 40 = .ok (.iinc 2 1, 3) := by decide +kernel
theorem dX16_packet_43 : decode cX16_packet 43 = .ok (.goto (-41), 3) := by decide +kernel
theorem dX16_packet_46 : decode cX16_packet 46 = .ok (.aconst_null, 1) := by decide +kernel
theorem dX16_packet_47 : decode cX16_packet 47 = .ok (.areturn, 1) := by decide +kernel
theorem wX16_packet_L40 {x : GX} {n0 sl0 : Nat} (X : Cx x cX16_packet RX16 (some (.object "WebHostModel$Packet")) n0 sl0 0 0) {out : Option Nat × Mm} (hE : Ends x n0 sl0 (some (pR out.1)) out.2) (hn : xn x = 3) (fu : Nat) (k2 : Nat → Int32 → Int32 → Mm → Option (Option Nat × Mm)) (hk2 : ∀ (b0 : Nat) (b1 : Int32) (b2 : Int32)  (M : Mm), k2 b0 b1 b2 M = some out → Gw x M 2 [(0, pR (some b0)), (1, pI b1), (2, pI b2)] []) (a0 : Nat) (a1 : Int32) (a2 : Int32)  (M : Mm) (h : fX16_packet_L40 fu k2 a0 a1 a2 M = some out) : Gw x M 40 [(0, pR (some a0)), (1, pI a1), (2, pI a2)] [] := by
  unfold fX16_packet_L40 at h
  refine g_iinc X (pc := 40) 2 [(2, pI (a2 + (1 : Int32))), (0, pR (some a0)), (1, pI a1)] rfl (iinc_e (by decide)) (lt_n hn (by decide)) rfl dX16_packet_40 ?_
  refine g_goto X (pc := 43) (tgt := 2) dX16_packet_43 (by decide) ?_
  refine g_sub [1, 2, 0] [(0, pR (some a0)), (1, pI a1), (2, pI (a2 + (1 : Int32)))] rfl ?_
  exact hk2 a0 a1 (a2 + (1 : Int32)) M h
theorem wX16_packet_L2 {x : GX} {n0 sl0 : Nat} (X : Cx x cX16_packet RX16 (some (.object "WebHostModel$Packet")) n0 sl0 0 0) {out : Option Nat × Mm} (hE : Ends x n0 sl0 (some (pR out.1)) out.2) (hn : xn x = 3) (fu : Nat)   : ∀ (n : Nat) (a0 : Nat) (a1 : Int32) (a2 : Int32)  (M : Mm), fX16_packet_L2 fu  n a0 a1 a2 M = some out → Gw x M 2 [(0, pR (some a0)), (1, pI a1), (2, pI a2)] [] := by
  intro n
  induction n with
  | zero =>
    intro a0 a1 a2 M h
    have h : (none : Option (Option Nat × Mm)) = some out := h
    cases h
  | succ n ih =>
    intro a0 a1 a2 M h
    rw [fX16_packet_L2] at h
    refine g_iload_n X (pc := 2) 2 rfl rfl dX16_packet_2 ?_
    refine g_bipush X (pc := 3) (v := 8) dX16_packet_3 (by decide) ?_
    refine g_icmp_ge X (pc := 5) (tgt := 46) dX16_packet_5 (by decide) (fun hc => ?_) (fun hc => ?_)
    · have h := (if_pos hc).symm.trans h
      refine g_null X (pc := 46) dX16_packet_46 ?_
      obtain rfl := Option.some.inj h
      exact g_areturn X rfl (Or.inl ⟨_, rfl⟩) hE dX16_packet_47
    · have h := (if_neg hc).symm.trans h
      refine g_aload_n X (pc := 8) 0 rfl rfl dX16_packet_8 ?_
      obtain ⟨v1, ev1, h⟩ := bd h
      refine g_getR X (pc := 9) fk_16_27 rfl rfl ev1 tb_1841 dX16_packet_9 ?_
      refine g_iload_n X (pc := 12) 2 rfl rfl dX16_packet_12 ?_
      obtain ⟨v2, ev2, h⟩ := bd h
      refine g_aaload X (pc := 13) (k := 7) rfl rfl (by decide) ev2 dX16_packet_13 ?_
      obtain ⟨v3, ev3, h⟩ := bd h
      refine g_getI X (pc := 14) fk_15_0 rfl rfl ev3 tb_1756 dX16_packet_14 ?_
      refine g_if_eq X (pc := 17) (tgt := 40) dX16_packet_17 (by decide) (fun hc => ?_) (fun hc => ?_)
      · have h := (if_pos hc).symm.trans h
        exact wX16_packet_L40 X hE hn fu (fun b0 b1 b2 M => fX16_packet_L2 fu  n b0 b1 b2 M) ih a0 a1 a2 M h
      · have h := (if_neg hc).symm.trans h
        refine g_aload_n X (pc := 20) 0 rfl rfl dX16_packet_20 ?_
        obtain ⟨v4, ev4, h⟩ := bd h
        refine g_getR X (pc := 21) fk_16_27 rfl rfl ev4 tb_1841 dX16_packet_21 ?_
        refine g_iload_n X (pc := 24) 2 rfl rfl dX16_packet_24 ?_
        obtain ⟨v5, ev5, h⟩ := bd h
        refine g_aaload X (pc := 25) (k := 7) rfl rfl (by decide) ev5 dX16_packet_25 ?_
        obtain ⟨v6, ev6, h⟩ := bd h
        refine g_getI X (pc := 26) fk_15_1 rfl rfl ev6 tb_1757 dX16_packet_26 ?_
        refine g_iload_n X (pc := 29) 1 rfl rfl dX16_packet_29 ?_
        refine g_icmp_ne X (pc := 30) (tgt := 40) dX16_packet_30 (by decide) (fun hc => ?_) (fun hc => ?_)
        · have h := (if_neg hc).symm.trans h
          exact wX16_packet_L40 X hE hn fu (fun b0 b1 b2 M => fX16_packet_L2 fu  n b0 b1 b2 M) ih a0 a1 a2 M h
        · have h := (if_pos hc).symm.trans h
          refine g_aload_n X (pc := 33) 0 rfl rfl dX16_packet_33 ?_
          obtain ⟨v7, ev7, h⟩ := bd h
          refine g_getR X (pc := 34) fk_16_27 rfl rfl ev7 tb_1841 dX16_packet_34 ?_
          refine g_iload_n X (pc := 37) 2 rfl rfl dX16_packet_37 ?_
          obtain ⟨v8, ev8, h⟩ := bd h
          refine g_aaload X (pc := 38) (k := 7) rfl rfl (by decide) ev8 dX16_packet_38 ?_
          obtain rfl := Option.some.inj h
          exact g_areturn X rfl (Or.inl ⟨_, rfl⟩) hE dX16_packet_39
theorem wX16_packet {x : GX} {n0 sl0 : Nat} (X : Cx x cX16_packet RX16 (some (.object "WebHostModel$Packet")) n0 sl0 0 0) {out : Option Nat × Mm} (hE : Ends x n0 sl0 (some (pR out.1)) out.2) (hn : xn x = 3) (fu : Nat)   (a0 : Nat) (a1 : Int32)  (M : Mm) (h : fX16_packet fu  a0 a1 M = some out) : Gw x M 0 [(0, pR (some a0)), (1, pI a1)] [] := by
  unfold fX16_packet at h
  refine g_iconst X (pc := 0) (v := 0) dX16_packet_0 (by decide) ?_
  refine g_istore_n X (pc := 1) [(2, pI (0 : Int32)), (0, pR (some a0)), (1, pI a1)] rfl (lt_n hn (by decide)) rfl dX16_packet_1 ?_
  refine g_sub [1, 2, 0] [(0, pR (some a0)), (1, pI a1), (2, pI (0 : Int32))] rfl ?_
  exact wX16_packet_L2 X hE hn fu   fu a0 a1 (0 : Int32) M h
theorem hyX16_packet : yX16_packet.cls ≠ "java/lang/invoke/MethodHandle" ∧ yX16_packet.cls ≠ "java/lang/invoke/VarHandle" ∧ (parseMethodDescriptor yX16_packet.desc).map (fun d => d.parameters.length) = some 1 := ⟨by decide +kernel, by decide +kernel, by decide +kernel⟩
theorem ctX16_packet (l : Launch) (E : Nat → Nat) (D : va_G) (dA : Nat → ClassId) (lo : Nat) (H0 : Heap) (fu : Nat) (a0 : Nat) (a1 : Int32) (M : Mm) (out : Option Nat × Mm) (h : fX16_packet fu a0 a1 M = some out) : Ct l E D dA lo H0 yX16_packet cX16_packet 3 (some (.object "WebHostModel$Packet")) 0 0 [pR (some a0), pI a1] M (some (pR out.1)) out.2 := by
  refine ct_of (by decide +kernel) (Nat.le_of_ble_eq_true rfl) ?_
  intro x hl he hd ha ho hh hn hin X hE
  exact wX16_packet X hE hn fu a0 a1 M h
/-! WebHostModel.remember(III)V -/
def fX16_remember_L151 (fu : Nat)  : Nat → Nat → Int32 → Int32 → Option Nat → Int32 → Mm → Option (Mm)
  | 0, _, _, _, _, _, _ => none
  | n + 1, a0, a2, a3, a5, a6, M =>
    (gI M 15 962 a5).bind fun v1 =>
    if v1 ≤ a6 then (
    (gI M 15 962 a5).bind fun v2 =>
    (rc M 16 (some a0)).bind fun q3 =>
    (fX16_send fu q3 a2 a3 (2048 : Int32) v2 M).bind fun M4 =>
    some M4)
    else (
    (gR M 16 1043 (some a0)).bind fun v5 =>
    (gR M 15 966 a5).bind fun v6 =>
    (gA M 100 v6 a6).bind fun v7 =>
    (pA M 100 v5 ((14 : Int32) + a6) (Int8.toInt32 (Int32.toInt8 v7))).bind fun M8 =>
    fX16_remember_L151 fu  n a0 a2 a3 a5 (a6 + (1 : Int32)) M8)
def fX16_remember_L96 (fu : Nat)  (a0 : Nat) (a1 : Int32) (a2 : Int32) (a3 : Int32) (a4 : Option Nat)  (M : Mm) : Option (Mm) :=
    (pZ M 14 896 a4 (1 : Int32)).bind fun M1 =>
    (pF M1 14 897 a4 a1).bind fun M2 =>
    (pF M2 14 898 a4 a2).bind fun M3 =>
    (pF M3 14 899 a4 a3).bind fun M4 =>
    (gI M4 16 1034 (some a0)).bind fun v5 =>
    (pF M4 14 900 a4 v5).bind fun M6 =>
    (rc M6 16 (some a0)).bind fun q7 =>
    b2 (fX16_packet fu q7 a1 M6) fun v9 M8 =>
    if v9 = none then (
    some M8)
    else (
    (pZ M8 15 960 v9 (0 : Int32)).bind fun M10 =>
    fX16_remember_L151 fu  fu a0 a2 a3 v9 (0 : Int32) M10)
def fX16_remember_L90 (fu : Nat) (k23 : Nat → Int32 → Int32 → Int32 → Option Nat → Int32 → Mm → Option (Mm)) (a0 : Nat) (a1 : Int32) (a2 : Int32) (a3 : Int32) (a4 : Option Nat) (a5 : Int32)  (M : Mm) : Option (Mm) :=
    k23 a0 a1 a2 a3 a4 (a5 + (1 : Int32)) M
def fX16_remember_L81 (fu : Nat) (k23 : Nat → Int32 → Int32 → Int32 → Option Nat → Int32 → Mm → Option (Mm)) (a0 : Nat) (a1 : Int32) (a2 : Int32) (a3 : Int32) (a5 : Int32)  (M : Mm) : Option (Mm) :=
    (gR M 16 1050 (some a0)).bind fun v1 =>
    (gB M 124 v1 a5).bind fun v2 =>
    fX16_remember_L90 fu k23 a0 a1 a2 a3 v2 a5 M
def fX16_remember_L48 (fu : Nat) (k23 : Nat → Int32 → Int32 → Int32 → Option Nat → Int32 → Mm → Option (Mm)) (a0 : Nat) (a1 : Int32) (a2 : Int32) (a3 : Int32) (a4 : Option Nat) (a5 : Int32) (s0 : Int32) (M : Mm) : Option (Mm) :=
    (gI M 14 896 a4).bind fun v1 =>
    if v1 = 0 then (
    fX16_remember_L90 fu k23 a0 a1 a2 a3 a4 a5 M)
    else (
    if s0 = 0 then (
    (gR M 16 1050 (some a0)).bind fun v2 =>
    (gB M 124 v2 a5).bind fun v3 =>
    (gI M 14 900 v3).bind fun v4 =>
    (gI M 14 900 a4).bind fun v5 =>
    if v5 ≤ v4 then (
    fX16_remember_L90 fu k23 a0 a1 a2 a3 a4 a5 M)
    else (
    fX16_remember_L81 fu k23 a0 a1 a2 a3 a5 M))
    else (
    fX16_remember_L81 fu k23 a0 a1 a2 a3 a5 M))
def fX16_remember_L23 (fu : Nat)  : Nat → Nat → Int32 → Int32 → Int32 → Option Nat → Int32 → Mm → Option (Mm)
  | 0, _, _, _, _, _, _, _ => none
  | n + 1, a0, a1, a2, a3, a4, a5, M =>
    if (16 : Int32) ≤ a5 then (
    fX16_remember_L96 fu  a0 a1 a2 a3 a4 M)
    else (
    (gR M 16 1050 (some a0)).bind fun v1 =>
    (gB M 124 v1 a5).bind fun v2 =>
    (gI M 14 896 v2).bind fun v3 =>
    if v3 = 0 then (
    fX16_remember_L48 fu (fun b0 b1 b2 b3 b4 b5 M => fX16_remember_L23 fu  n b0 b1 b2 b3 b4 b5 M) a0 a1 a2 a3 a4 a5 (1 : Int32) M)
    else (
    fX16_remember_L48 fu (fun b0 b1 b2 b3 b4 b5 M => fX16_remember_L23 fu  n b0 b1 b2 b3 b4 b5 M) a0 a1 a2 a3 a4 a5 (0 : Int32) M))
def fX16_remember (fu : Nat)  (a0 : Nat) (a1 : Int32) (a2 : Int32) (a3 : Int32)  (M : Mm) : Option (Mm) :=
    (rc M 16 (some a0)).bind fun q1 =>
    b2 (fX16_entry fu q1 a1 M) fun v3 M2 =>
    if v3 = none then (
    (gR M2 16 1050 (some a0)).bind fun v4 =>
    (gB M2 124 v4 (0 : Int32)).bind fun v5 =>
    fX16_remember_L23 fu  fu a0 a1 a2 a3 v5 (1 : Int32) M2)
    else (
    fX16_remember_L96 fu  a0 a1 a2 a3 v3 M2)
theorem dX16_remember_0 : decode cX16_remember 0 = .ok (.aload_n 0, 1) := by decide +kernel
theorem dX16_remember_1 : decode cX16_remember 1 = .ok (.iload_n 1, 1) := by decide +kernel
theorem dX16_remember_2 : decode cX16_remember 2 = .ok (.invokevirtual 174, 3) := by decide +kernel
theorem dX16_remember_5 : decode cX16_remember 5 = .ok (.astore 4, 2) := by decide +kernel
theorem dX16_remember_7 : decode cX16_remember 7 = .ok (.aload 4, 2) := by decide +kernel
theorem dX16_remember_9 : decode cX16_remember 9 = .ok (.ifnonnull 87, 3) := by decide +kernel
theorem dX16_remember_12 : decode cX16_remember 12 = .ok (.aload_n 0, 1) := by decide +kernel
theorem dX16_remember_13 : decode cX16_remember 13 = .ok (.getfield 49, 3) := by decide +kernel
theorem dX16_remember_16 : decode cX16_remember 16 = .ok (.iconst 0, 1) := by decide +kernel
theorem dX16_remember_17 : decode cX16_remember 17 = .ok (.aaload, 1) := by decide +kernel
theorem dX16_remember_18 : decode cX16_remember 18 = .ok (.astore 4, 2) := by decide +kernel
theorem dX16_remember_20 : decode cX16_remember 20 = .ok (.iconst 1, 1) := by decide +kernel
theorem dX16_remember_21 : decode cX16_remember 21 = .ok (.istore 5, 2) := by decide +kernel
theorem dX16_remember_23 : decode cX16_remember 23 = .ok (.iload 5, 2) := by decide +kernel
theorem dX16_remember_25 : decode cX16_remember 25 = .ok (.bipush 16, 2) := by decide +kernel
theorem dX16_remember_27 : decode cX16_remember 27 = .ok (.if_icmp .ge 69, 3) := by decide +kernel
theorem dX16_remember_30 : decode cX16_remember 30 = .ok (.aload_n 0, 1) := by decide +kernel
theorem dX16_remember_31 : decode cX16_remember 31 = .ok (.getfield 49, 3) := by decide +kernel
theorem dX16_remember_34 : decode cX16_remember 34 = .ok (.iload 5, 2) := by decide +kernel
theorem dX16_remember_36 : decode cX16_remember 36 = .ok (.aaload, 1) := by decide +kernel
theorem dX16_remember_37 : decode cX16_remember 37 = .ok (.getfield 155, 3) := by decide +kernel
theorem dX16_remember_40 : decode cX16_remember 40 = .ok (.ifCond .ne 7, 3) := by decide +kernel
theorem dX16_remember_43 : decode cX16_remember 43 = .ok (.iconst 1, 1) := by decide +kernel
theorem dX16_remember_44 : decode cX16_remember 44 = .ok (.goto 4, 3) := by decide +kernel
theorem dX16_remember_47 : decode cX16_remember 47 = .ok (.iconst 0, 1) := by decide +kernel
theorem dX16_remember_48 : decode cX16_remember 48 = .ok (.istore 6, 2) := by decide +kernel
theorem dX16_remember_50 : decode cX16_remember 50 = .ok (.aload 4, 2) := by decide +kernel
theorem dX16_remember_52 : decode cX16_remember 52 = .ok (.getfield 155, 3) := by decide +kernel
theorem dX16_remember_55 : decode cX16_remember 55 = .ok (.ifCond .eq 35, 3) := by decide +kernel
theorem dX16_remember_58 : decode cX16_remember 58 = .ok (.iload 6, 2) := by decide +kernel
theorem dX16_remember_60 : decode cX16_remember 60 = .ok (.ifCond .ne 21, 3) := by decide +kernel
theorem dX16_remember_63 : decode cX16_remember 63 = .ok (.aload_n 0, 1) := by decide +kernel
theorem dX16_remember_64 : decode cX16_remember 64 = .ok (.getfield 49, 3) := by decide +kernel
theorem dX16_remember_67 : decode cX16_remember 67 = .ok (.iload 5, 2) := by decide +kernel
theorem dX16_remember_69 : decode cX16_remember 69 = .ok (.aaload, 1) := by decide +kernel
theorem dX16_remember_70 : decode cX16_remember 70 = .ok (.getfield 178, 3) := by decide +kernel
theorem dX16_remember_73 : decode cX16_remember 73 = .ok (.aload 4, 2) := by decide +kernel
theorem dX16_remember_75 : decode cX16_remember 75 = .ok (.getfield 178, 3) := by decide +kernel
theorem dX16_remember_78 : decode cX16_remember 78 = .ok (.if_icmp .ge 12, 3) := by decide +kernel
theorem dX16_remember_81 : decode cX16_remember 81 = .ok (.aload_n 0, 1) := by decide +kernel
theorem dX16_remember_82 : decode cX16_remember 82 = .ok (.getfield 49, 3) := by decide +kernel
theorem dX16_remember_85 : decode cX16_remember 85 = .ok (.iload 5, 2) := by decide +kernel
theorem dX16_remember_87 : decode cX16_remember 87 = .ok (.aaload, 1) := by decide +kernel
theorem dX16_remember_88 : decode cX16_remember 88 = .ok (.astore 4, 2) := by decide +kernel
theorem dX16_remember_90 : decode cX16_remember 90 = .ok (.iinc 5 1, 3) := by decide +kernel
theorem dX16_remember_93 : decode cX16_remember 93 = .ok (.goto (-70), 3) := by decide +kernel
theorem dX16_remember_96 : decode cX16_remember 96 = .ok (.aload 4, 2) := by decide +kernel
theorem dX16_remember_98 : decode cX16_remember 98 = .ok (.iconst 1, 1) := by decide +kernel
theorem dX16_remember_99 : decode cX16_remember 99 = .ok (.putfield 155, 3) := by decide +kernel
theorem dX16_remember_102 : decode cX16_remember 102 = .ok (.aload 4, 2) := by decide +kernel
theorem dX16_remember_104 : decode cX16_remember 104 = .ok (.iload_n 1, 1) := by decide +kernel
theorem dX16_remember_105 : decode cX16_remember 105 = .ok (.putfield 171, 3) := by decide +kernel
theorem dX16_remember_108 : decode cX16_remember 108 = .ok (.aload 4, 2) := by decide +kernel
theorem dX16_remember_110 : decode cX16_remember 110 = .ok (.iload_n 2, 1) := by decide +kernel
theorem dX16_remember_111 : decode cX16_remember 111 = .ok (.putfield 185, 3) := by decide +kernel
theorem dX16_remember_114 : decode cX16_remember 114 = .ok (.aload 4, 2) := by decide +kernel
theorem dX16_remember_116 : decode cX16_remember 116 = .ok (.iload_n 3, 1) := by decide +kernel
theorem dX16_remember_117 : decode cX16_remember 117 = .ok (.putfield 186, 3) := by decide +kernel
theorem dX16_remember_120 : decode cX16_remember 120 = .ok (.aload 4, 2) := by decide +kernel
theorem dX16_remember_122 : decode cX16_remember 122 = .ok (.aload_n 0, 1) := by decide +kernel
theorem dX16_remember_123 : decode cX16_remember 123 = .ok (.getfield 134, 3) := by decide +kernel
theorem dX16_remember_126 : decode cX16_remember 126 = .ok (.putfield 178, 3) := by decide +kernel
theorem dX16_remember_129 : decode cX16_remember 129 = .ok (.aload_n 0, 1) := by decide +kernel
theorem dX16_remember_130 : decode cX16_remember 130 = .ok (.iload_n 1, 1) := by decide +kernel
theorem dX16_remember_131 : decode cX16_remember 131 = .ok (.invokevirtual 187, 3) := by decide +kernel
theorem dX16_remember_134 : decode cX16_remember 134 = .ok (.astore 5, 2) := by decide +kernel
theorem dX16_remember_136 : decode cX16_remember 136 = .ok (.aload 5, 2) := by decide +kernel
theorem dX16_remember_138 : decode cX16_remember 138 = .ok (.ifnonnull 4, 3) := by decide +kernel
theorem dX16_remember_141 : decode cX16_remember 141 = .ok (.return_, 1) := by decide +kernel
theorem dX16_remember_142 : decode cX16_remember 142 = .ok (.aload 5, 2) := by decide +kernel
theorem dX16_remember_144 : decode cX16_remember 144 = .ok (.iconst 0, 1) := by decide +kernel
theorem dX16_remember_145 : decode cX16_remember 145 = .ok (.putfield 158, 3) := by decide +kernel
theorem dX16_remember_148 : decode cX16_remember 148 = .ok (.iconst 0, 1) := by decide +kernel
theorem dX16_remember_149 : decode cX16_remember 149 = .ok (.istore 6, 2) := by decide +kernel
theorem dX16_remember_151 : decode cX16_remember 151 = .ok (.iload 6, 2) := by decide +kernel
theorem dX16_remember_153 : decode cX16_remember 153 = .ok (.aload 5, 2) := by decide +kernel
theorem dX16_remember_155 : decode cX16_remember 155 = .ok (.getfield 191, 3) := by decide +kernel
theorem dX16_remember_158 : decode cX16_remember 158 = .ok (.if_icmp .ge 27, 3) := by decide +kernel
theorem dX16_remember_161 : decode cX16_remember 161 = .ok (.aload_n 0, 1) := by decide +kernel
theorem dX16_remember_162 : decode cX16_remember 162 = .ok (.getfield 34, 3) := by decide +kernel
theorem dX16_remember_165 : decode cX16_remember 165 = .ok (.bipush 14, 2) := by decide +kernel
theorem dX16_remember_167 : decode cX16_remember 167 = .ok (.iload 6, 2) := by decide +kernel
theorem dX16_remember_169 : decode cX16_remember 169 = .ok (.iadd, 1) := by decide +kernel
theorem dX16_remember_170 : decode cX16_remember 170 = .ok (.aload 5, 2) := by decide +kernel
theorem dX16_remember_172 : decode cX16_remember 172 = .ok (.getfield 194, 3) := by decide +kernel
theorem dX16_remember_175 : decode cX16_remember 175 = .ok (.iload 6, 2) := by decide +kernel
theorem dX16_remember_177 : decode cX16_remember 177 = .ok (.baload, 1) := by decide +kernel
theorem dX16_remember_178 : decode cX16_remember 178 = .ok (.bastore, 1) := by decide +kernel
theorem dX16_remember_179 : decode cX16_remember 179 = .ok (.iinc 6 1, 3) := by decide +kernel
theorem dX16_remember_182 : decode cX16_remember 182 = .ok (.goto (-31), 3) := by decide +kernel
theorem dX16_remember_185 : decode cX16_remember 185 = .ok (.aload_n 0, 1) := by decide +kernel
theorem dX16_remember_186 : decode cX16_remember 186 = .ok (.iload_n 2, 1) := by decide +kernel
theorem dX16_remember_187 : decode cX16_remember 187 = .ok (.iload_n 3, 1) := by decide +kernel
theorem dX16_remember_188 : decode cX16_remember 188 = .ok (.sipush 2048, 3) := by decide +kernel
theorem dX16_remember_191 : decode cX16_remember 191 = .ok (.aload 5, 2) := by decide +kernel
theorem dX16_remember_193 : decode cX16_remember 193 = .ok (.getfield 191, 3) := by decide +kernel
theorem dX16_remember_196 : decode cX16_remember 196 = .ok (.invokevirtual 197, 3) := by decide +kernel
theorem dX16_remember_199 : decode cX16_remember 199 = .ok (.return_, 1) := by decide +kernel
theorem wX16_remember_L151 {x : GX} {n0 sl0 : Nat} (X : Cx x cX16_remember RX16 none n0 sl0 2 51) {out : Mm} (hE : Ends x n0 sl0 none out) (hn : xn x = 7) (fu : Nat)   : ∀ (n : Nat) (a0 : Nat) (a2 : Int32) (a3 : Int32) (a5 : Option Nat) (a6 : Int32)  (M : Mm), fX16_remember_L151 fu  n a0 a2 a3 a5 a6 M = some out → Gw x M 151 [(0, pR (some a0)), (2, pI a2), (3, pI a3), (5, pR a5), (6, pI a6)] [] := by
  intro n
  induction n with
  | zero =>
    intro a0 a2 a3 a5 a6 M h
    have h : (none : Option (Mm)) = some out := h
    cases h
  | succ n ih =>
    intro a0 a2 a3 a5 a6 M h
    rw [fX16_remember_L151] at h
    refine g_iload X (pc := 151) 4 rfl dX16_remember_151 ?_
    refine g_aload X (pc := 153) 3 rfl dX16_remember_153 ?_
    obtain ⟨v1, ev1, h⟩ := bd h
    refine g_getI X (pc := 155) fk_15_2 rfl rfl ev1 tb_1758 dX16_remember_155 ?_
    refine g_icmp_ge X (pc := 158) (tgt := 185) dX16_remember_158 (by decide) (fun hc => ?_) (fun hc => ?_)
    · have h := (if_pos hc).symm.trans h
      refine g_aload_n X (pc := 185) 0 rfl rfl dX16_remember_185 ?_
      refine g_iload_n X (pc := 186) 1 rfl rfl dX16_remember_186 ?_
      refine g_iload_n X (pc := 187) 2 rfl rfl dX16_remember_187 ?_
      refine g_sipush X (pc := 188) (v := 2048) dX16_remember_188 (by decide) ?_
      refine g_aload X (pc := 191) 3 rfl dX16_remember_191 ?_
      obtain ⟨v2, ev2, h⟩ := bd h
      refine g_getI X (pc := 193) fk_15_2 rfl rfl ev2 tb_1758 dX16_remember_193 ?_
      obtain ⟨q3, eq3, h⟩ := bd h
      obtain ⟨M4, eM4, h⟩ := bd h
      refine g_callV X (pc := 196) (M' := M4) (ro := none) (c := 16) rfl (by decide) (as := [pI a2, pI a3, pI (2048 : Int32), pI v2]) (as' := [pI v2, pI (2048 : Int32), pI a3, pI a2]) (st := []) eq3 (ctX16_send _ _ _ _ _ _ fu q3 a2 a3 (2048 : Int32) v2 M _ eM4) tb_2099 tb_2096 tb_2098 ts_73 tb_8 ⟨rfl, hyX16_send⟩ rfl rfl ⟨by decide, by decide⟩ (Nat.le_of_ble_eq_true rfl) dX16_remember_196 ?_
      obtain rfl := Option.some.inj h
      exact g_return X hE dX16_remember_199
    · have h := (if_neg hc).symm.trans h
      refine g_aload_n X (pc := 161) 0 rfl rfl dX16_remember_161 ?_
      obtain ⟨v5, ev5, h⟩ := bd h
      refine g_getR X (pc := 162) fk_16_19 rfl rfl ev5 tb_1833 dX16_remember_162 ?_
      refine g_bipush X (pc := 165) (v := 14) dX16_remember_165 (by decide) ?_
      refine g_iload X (pc := 167) 4 rfl dX16_remember_167 ?_
      refine g_iadd X (pc := 169) dX16_remember_169 ?_
      refine g_aload X (pc := 170) 3 rfl dX16_remember_170 ?_
      obtain ⟨v6, ev6, h⟩ := bd h
      refine g_getR X (pc := 172) fk_15_6 rfl rfl ev6 tb_1763 dX16_remember_172 ?_
      refine g_iload X (pc := 175) 4 rfl dX16_remember_175 ?_
      obtain ⟨v7, ev7, h⟩ := bd h
      refine g_baload X (pc := 177) ev7 dX16_remember_177 ?_
      obtain ⟨M8, eM8, h⟩ := bd h
      refine g_bastore X (pc := 178) eM8 dX16_remember_178 ?_
      refine g_iinc X (pc := 179) 4 [(6, pI (a6 + (1 : Int32))), (0, pR (some a0)), (2, pI a2), (3, pI a3), (5, pR a5)] rfl (iinc_e (by decide)) (lt_n hn (by decide)) rfl dX16_remember_179 ?_
      refine g_goto X (pc := 182) (tgt := 151) dX16_remember_182 (by decide) ?_
      refine g_sub [1, 2, 3, 4, 0] [(0, pR (some a0)), (2, pI a2), (3, pI a3), (5, pR a5), (6, pI (a6 + (1 : Int32)))] rfl ?_
      exact ih a0 a2 a3 a5 (a6 + (1 : Int32)) M8 h
theorem wX16_remember_L96 {x : GX} {n0 sl0 : Nat} (X : Cx x cX16_remember RX16 none n0 sl0 2 51) {out : Mm} (hE : Ends x n0 sl0 none out) (hn : xn x = 7) (fu : Nat)   (a0 : Nat) (a1 : Int32) (a2 : Int32) (a3 : Int32) (a4 : Option Nat)  (M : Mm) (h : fX16_remember_L96 fu  a0 a1 a2 a3 a4 M = some out) : Gw x M 96 [(0, pR (some a0)), (1, pI a1), (2, pI a2), (3, pI a3), (4, pR a4)] [] := by
  unfold fX16_remember_L96 at h
  refine g_aload X (pc := 96) 4 rfl dX16_remember_96 ?_
  refine g_iconst X (pc := 98) (v := 1) dX16_remember_98 (by decide) ?_
  obtain ⟨M1, eM1, h⟩ := bd h
  refine g_putZ X (pc := 99) fk_14_0 rfl rfl rfl eM1 tb_1735 (Or.inl rfl) dX16_remember_99 ?_
  refine g_aload X (pc := 102) 4 rfl dX16_remember_102 ?_
  refine g_iload_n X (pc := 104) 1 rfl rfl dX16_remember_104 ?_
  obtain ⟨M2, eM2, h⟩ := bd h
  refine g_putI X (pc := 105) fk_14_1 rfl rfl rfl eM2 tb_1736 (Or.inl rfl) dX16_remember_105 ?_
  refine g_aload X (pc := 108) 4 rfl dX16_remember_108 ?_
  refine g_iload_n X (pc := 110) 2 rfl rfl dX16_remember_110 ?_
  obtain ⟨M3, eM3, h⟩ := bd h
  refine g_putI X (pc := 111) fk_14_2 rfl rfl rfl eM3 tb_1737 (Or.inl rfl) dX16_remember_111 ?_
  refine g_aload X (pc := 114) 4 rfl dX16_remember_114 ?_
  refine g_iload_n X (pc := 116) 3 rfl rfl dX16_remember_116 ?_
  obtain ⟨M4, eM4, h⟩ := bd h
  refine g_putI X (pc := 117) fk_14_3 rfl rfl rfl eM4 tb_1738 (Or.inl rfl) dX16_remember_117 ?_
  refine g_aload X (pc := 120) 4 rfl dX16_remember_120 ?_
  refine g_aload_n X (pc := 122) 0 rfl rfl dX16_remember_122 ?_
  obtain ⟨v5, ev5, h⟩ := bd h
  refine g_getI X (pc := 123) fk_16_10 rfl rfl ev5 tb_1824 dX16_remember_123 ?_
  obtain ⟨M6, eM6, h⟩ := bd h
  refine g_putI X (pc := 126) fk_14_4 rfl rfl rfl eM6 tb_1739 (Or.inl rfl) dX16_remember_126 ?_
  refine g_aload_n X (pc := 129) 0 rfl rfl dX16_remember_129 ?_
  refine g_iload_n X (pc := 130) 1 rfl rfl dX16_remember_130 ?_
  obtain ⟨q7, eq7, h⟩ := bd h
  obtain ⟨v9, M8, eM8, h⟩ := b2d h
  refine g_callV X (pc := 131) (M' := M8) (ro := some (pR v9)) (c := 16) rfl (by decide) (as := [pI a1]) (as' := [pI a1]) (st := []) eq7 (ctX16_packet _ _ _ _ _ _ fu q7 a1 M6 _ eM8) tb_2150 tb_2147 tb_2149 ts_81 tb_8 ⟨rfl, hyX16_packet⟩ rfl rfl ⟨by decide, by decide⟩ (Nat.le_of_ble_eq_true rfl) dX16_remember_131 ?_
  refine g_astore X (pc := 134) [(5, pR v9), (0, pR (some a0)), (1, pI a1), (2, pI a2), (3, pI a3), (4, pR a4)] (lt_n hn (by decide)) rfl dX16_remember_134 ?_
  refine g_aload X (pc := 136) 0 rfl dX16_remember_136 ?_
  refine g_ifnonnull X (pc := 138) (tgt := 142) dX16_remember_138 (by decide) (fun hc => ?_) (fun hc => ?_)
  · have h := (if_neg hc).symm.trans h
    refine g_aload X (pc := 142) 0 rfl dX16_remember_142 ?_
    refine g_iconst X (pc := 144) (v := 0) dX16_remember_144 (by decide) ?_
    obtain ⟨M10, eM10, h⟩ := bd h
    refine g_putZ X (pc := 145) fk_15_0 rfl rfl rfl eM10 tb_1756 (Or.inl rfl) dX16_remember_145 ?_
    refine g_iconst X (pc := 148) (v := 0) dX16_remember_148 (by decide) ?_
    refine g_istore X (pc := 149) [(6, pI (0 : Int32)), (5, pR v9), (0, pR (some a0)), (1, pI a1), (2, pI a2), (3, pI a3), (4, pR a4)] (lt_n hn (by decide)) rfl dX16_remember_149 ?_
    refine g_sub [2, 4, 5, 1, 0] [(0, pR (some a0)), (2, pI a2), (3, pI a3), (5, pR v9), (6, pI (0 : Int32))] rfl ?_
    exact wX16_remember_L151 X hE hn fu   fu a0 a2 a3 v9 (0 : Int32) M10 h
  · have h := (if_pos hc).symm.trans h
    obtain rfl := Option.some.inj h
    exact g_return X hE dX16_remember_141
theorem wX16_remember_L90 {x : GX} {n0 sl0 : Nat} (X : Cx x cX16_remember RX16 none n0 sl0 2 51) {out : Mm} (hE : Ends x n0 sl0 none out) (hn : xn x = 7) (fu : Nat) (k23 : Nat → Int32 → Int32 → Int32 → Option Nat → Int32 → Mm → Option (Mm)) (hk23 : ∀ (b0 : Nat) (b1 : Int32) (b2 : Int32) (b3 : Int32) (b4 : Option Nat) (b5 : Int32)  (M : Mm), k23 b0 b1 b2 b3 b4 b5 M = some out → Gw x M 23 [(0, pR (some b0)), (1, pI b1), (2, pI b2), (3, pI b3), (4, pR b4), (5, pI b5)] []) (a0 : Nat) (a1 : Int32) (a2 : Int32) (a3 : Int32) (a4 : Option Nat) (a5 : Int32)  (M : Mm) (h : fX16_remember_L90 fu k23 a0 a1 a2 a3 a4 a5 M = some out) : Gw x M 90 [(0, pR (some a0)), (1, pI a1), (2, pI a2), (3, pI a3), (4, pR a4), (5, pI a5)] [] := by
  unfold fX16_remember_L90 at h
  refine g_iinc X (pc := 90) 5 [(5, pI (a5 + (1 : Int32))), (0, pR (some a0)), (1, pI a1), (2, pI a2), (3, pI a3), (4, pR a4)] rfl (iinc_e (by decide)) (lt_n hn (by decide)) rfl dX16_remember_90 ?_
  refine g_goto X (pc := 93) (tgt := 23) dX16_remember_93 (by decide) ?_
  refine g_sub [1, 2, 3, 4, 5, 0] [(0, pR (some a0)), (1, pI a1), (2, pI a2), (3, pI a3), (4, pR a4), (5, pI (a5 + (1 : Int32)))] rfl ?_
  exact hk23 a0 a1 a2 a3 a4 (a5 + (1 : Int32)) M h
theorem wX16_remember_L81 {x : GX} {n0 sl0 : Nat} (X : Cx x cX16_remember RX16 none n0 sl0 2 51) {out : Mm} (hE : Ends x n0 sl0 none out) (hn : xn x = 7) (fu : Nat) (k23 : Nat → Int32 → Int32 → Int32 → Option Nat → Int32 → Mm → Option (Mm)) (hk23 : ∀ (b0 : Nat) (b1 : Int32) (b2 : Int32) (b3 : Int32) (b4 : Option Nat) (b5 : Int32)  (M : Mm), k23 b0 b1 b2 b3 b4 b5 M = some out → Gw x M 23 [(0, pR (some b0)), (1, pI b1), (2, pI b2), (3, pI b3), (4, pR b4), (5, pI b5)] []) (a0 : Nat) (a1 : Int32) (a2 : Int32) (a3 : Int32) (a5 : Int32)  (M : Mm) (h : fX16_remember_L81 fu k23 a0 a1 a2 a3 a5 M = some out) : Gw x M 81 [(0, pR (some a0)), (1, pI a1), (2, pI a2), (3, pI a3), (5, pI a5)] [] := by
  unfold fX16_remember_L81 at h
  refine g_aload_n X (pc := 81) 0 rfl rfl dX16_remember_81 ?_
  obtain ⟨v1, ev1, h⟩ := bd h
  refine g_getR X (pc := 82) fk_16_26 rfl rfl ev1 tb_1840 dX16_remember_82 ?_
  refine g_iload X (pc := 85) 4 rfl dX16_remember_85 ?_
  obtain ⟨v2, ev2, h⟩ := bd h
  refine g_aaload X (pc := 87) (k := 6) rfl rfl (by decide) ev2 dX16_remember_87 ?_
  refine g_astore X (pc := 88) [(4, pR v2), (0, pR (some a0)), (1, pI a1), (2, pI a2), (3, pI a3), (5, pI a5)] (lt_n hn (by decide)) rfl dX16_remember_88 ?_
  refine g_sub [1, 2, 3, 4, 0, 5] [(0, pR (some a0)), (1, pI a1), (2, pI a2), (3, pI a3), (4, pR v2), (5, pI a5)] rfl ?_
  exact wX16_remember_L90 X hE hn fu k23 hk23 a0 a1 a2 a3 v2 a5 M h
theorem wX16_remember_L48 {x : GX} {n0 sl0 : Nat} (X : Cx x cX16_remember RX16 none n0 sl0 2 51) {out : Mm} (hE : Ends x n0 sl0 none out) (hn : xn x = 7) (fu : Nat) (k23 : Nat → Int32 → Int32 → Int32 → Option Nat → Int32 → Mm → Option (Mm)) (hk23 : ∀ (b0 : Nat) (b1 : Int32) (b2 : Int32) (b3 : Int32) (b4 : Option Nat) (b5 : Int32)  (M : Mm), k23 b0 b1 b2 b3 b4 b5 M = some out → Gw x M 23 [(0, pR (some b0)), (1, pI b1), (2, pI b2), (3, pI b3), (4, pR b4), (5, pI b5)] []) (a0 : Nat) (a1 : Int32) (a2 : Int32) (a3 : Int32) (a4 : Option Nat) (a5 : Int32) (s0 : Int32) (M : Mm) (h : fX16_remember_L48 fu k23 a0 a1 a2 a3 a4 a5 s0 M = some out) : Gw x M 48 [(0, pR (some a0)), (1, pI a1), (2, pI a2), (3, pI a3), (4, pR a4), (5, pI a5)] [pI s0] := by
  unfold fX16_remember_L48 at h
  refine g_istore X (pc := 48) [(6, pI s0), (0, pR (some a0)), (1, pI a1), (2, pI a2), (3, pI a3), (4, pR a4), (5, pI a5)] (lt_n hn (by decide)) rfl dX16_remember_48 ?_
  refine g_aload X (pc := 50) 5 rfl dX16_remember_50 ?_
  obtain ⟨v1, ev1, h⟩ := bd h
  refine g_getI X (pc := 52) fk_14_0 rfl rfl ev1 tb_1735 dX16_remember_52 ?_
  refine g_if_eq X (pc := 55) (tgt := 90) dX16_remember_55 (by decide) (fun hc => ?_) (fun hc => ?_)
  · have h := (if_pos hc).symm.trans h
    refine g_sub [1, 2, 3, 4, 5, 6] [(0, pR (some a0)), (1, pI a1), (2, pI a2), (3, pI a3), (4, pR a4), (5, pI a5)] rfl ?_
    exact wX16_remember_L90 X hE hn fu k23 hk23 a0 a1 a2 a3 a4 a5 M h
  · have h := (if_neg hc).symm.trans h
    refine g_iload X (pc := 58) 0 rfl dX16_remember_58 ?_
    refine g_if_ne X (pc := 60) (tgt := 81) dX16_remember_60 (by decide) (fun hc => ?_) (fun hc => ?_)
    · have h := (if_neg hc).symm.trans h
      refine g_sub [1, 2, 3, 4, 6] [(0, pR (some a0)), (1, pI a1), (2, pI a2), (3, pI a3), (5, pI a5)] rfl ?_
      exact wX16_remember_L81 X hE hn fu k23 hk23 a0 a1 a2 a3 a5 M h
    · have h := (if_pos hc).symm.trans h
      refine g_aload_n X (pc := 63) 1 rfl rfl dX16_remember_63 ?_
      obtain ⟨v2, ev2, h⟩ := bd h
      refine g_getR X (pc := 64) fk_16_26 rfl rfl ev2 tb_1840 dX16_remember_64 ?_
      refine g_iload X (pc := 67) 6 rfl dX16_remember_67 ?_
      obtain ⟨v3, ev3, h⟩ := bd h
      refine g_aaload X (pc := 69) (k := 6) rfl rfl (by decide) ev3 dX16_remember_69 ?_
      obtain ⟨v4, ev4, h⟩ := bd h
      refine g_getI X (pc := 70) fk_14_4 rfl rfl ev4 tb_1739 dX16_remember_70 ?_
      refine g_aload X (pc := 73) 5 rfl dX16_remember_73 ?_
      obtain ⟨v5, ev5, h⟩ := bd h
      refine g_getI X (pc := 75) fk_14_4 rfl rfl ev5 tb_1739 dX16_remember_75 ?_
      refine g_icmp_ge X (pc := 78) (tgt := 90) dX16_remember_78 (by decide) (fun hc => ?_) (fun hc => ?_)
      · have h := (if_pos hc).symm.trans h
        refine g_sub [1, 2, 3, 4, 5, 6] [(0, pR (some a0)), (1, pI a1), (2, pI a2), (3, pI a3), (4, pR a4), (5, pI a5)] rfl ?_
        exact wX16_remember_L90 X hE hn fu k23 hk23 a0 a1 a2 a3 a4 a5 M h
      · have h := (if_neg hc).symm.trans h
        refine g_sub [1, 2, 3, 4, 6] [(0, pR (some a0)), (1, pI a1), (2, pI a2), (3, pI a3), (5, pI a5)] rfl ?_
        exact wX16_remember_L81 X hE hn fu k23 hk23 a0 a1 a2 a3 a5 M h
theorem wX16_remember_L23 {x : GX} {n0 sl0 : Nat} (X : Cx x cX16_remember RX16 none n0 sl0 2 51) {out : Mm} (hE : Ends x n0 sl0 none out) (hn : xn x = 7) (fu : Nat)   : ∀ (n : Nat) (a0 : Nat) (a1 : Int32) (a2 : Int32) (a3 : Int32) (a4 : Option Nat) (a5 : Int32)  (M : Mm), fX16_remember_L23 fu  n a0 a1 a2 a3 a4 a5 M = some out → Gw x M 23 [(0, pR (some a0)), (1, pI a1), (2, pI a2), (3, pI a3), (4, pR a4), (5, pI a5)] [] := by
  intro n
  induction n with
  | zero =>
    intro a0 a1 a2 a3 a4 a5 M h
    have h : (none : Option (Mm)) = some out := h
    cases h
  | succ n ih =>
    intro a0 a1 a2 a3 a4 a5 M h
    rw [fX16_remember_L23] at h
    refine g_iload X (pc := 23) 5 rfl dX16_remember_23 ?_
    refine g_bipush X (pc := 25) (v := 16) dX16_remember_25 (by decide) ?_
    refine g_icmp_ge X (pc := 27) (tgt := 96) dX16_remember_27 (by decide) (fun hc => ?_) (fun hc => ?_)
    · have h := (if_pos hc).symm.trans h
      refine g_sub [0, 1, 2, 3, 4] [(0, pR (some a0)), (1, pI a1), (2, pI a2), (3, pI a3), (4, pR a4)] rfl ?_
      exact wX16_remember_L96 X hE hn fu   a0 a1 a2 a3 a4 M h
    · have h := (if_neg hc).symm.trans h
      refine g_aload_n X (pc := 30) 0 rfl rfl dX16_remember_30 ?_
      obtain ⟨v1, ev1, h⟩ := bd h
      refine g_getR X (pc := 31) fk_16_26 rfl rfl ev1 tb_1840 dX16_remember_31 ?_
      refine g_iload X (pc := 34) 5 rfl dX16_remember_34 ?_
      obtain ⟨v2, ev2, h⟩ := bd h
      refine g_aaload X (pc := 36) (k := 6) rfl rfl (by decide) ev2 dX16_remember_36 ?_
      obtain ⟨v3, ev3, h⟩ := bd h
      refine g_getI X (pc := 37) fk_14_0 rfl rfl ev3 tb_1735 dX16_remember_37 ?_
      refine g_if_ne X (pc := 40) (tgt := 47) dX16_remember_40 (by decide) (fun hc => ?_) (fun hc => ?_)
      · have h := (if_neg hc).symm.trans h
        refine g_iconst X (pc := 47) (v := 0) dX16_remember_47 (by decide) ?_
        exact wX16_remember_L48 X hE hn fu (fun b0 b1 b2 b3 b4 b5 M => fX16_remember_L23 fu  n b0 b1 b2 b3 b4 b5 M) ih a0 a1 a2 a3 a4 a5 (0 : Int32) M h
      · have h := (if_pos hc).symm.trans h
        refine g_iconst X (pc := 43) (v := 1) dX16_remember_43 (by decide) ?_
        refine g_goto X (pc := 44) (tgt := 48) dX16_remember_44 (by decide) ?_
        exact wX16_remember_L48 X hE hn fu (fun b0 b1 b2 b3 b4 b5 M => fX16_remember_L23 fu  n b0 b1 b2 b3 b4 b5 M) ih a0 a1 a2 a3 a4 a5 (1 : Int32) M h
theorem wX16_remember {x : GX} {n0 sl0 : Nat} (X : Cx x cX16_remember RX16 none n0 sl0 2 51) {out : Mm} (hE : Ends x n0 sl0 none out) (hn : xn x = 7) (fu : Nat)   (a0 : Nat) (a1 : Int32) (a2 : Int32) (a3 : Int32)  (M : Mm) (h : fX16_remember fu  a0 a1 a2 a3 M = some out) : Gw x M 0 [(0, pR (some a0)), (1, pI a1), (2, pI a2), (3, pI a3)] [] := by
  unfold fX16_remember at h
  refine g_aload_n X (pc := 0) 0 rfl rfl dX16_remember_0 ?_
  refine g_iload_n X (pc := 1) 1 rfl rfl dX16_remember_1 ?_
  obtain ⟨q1, eq1, h⟩ := bd h
  obtain ⟨v3, M2, eM2, h⟩ := b2d h
  refine g_callV X (pc := 2) (M' := M2) (ro := some (pR v3)) (c := 16) rfl (by decide) (as := [pI a1]) (as' := [pI a1]) (st := []) eq1 (ctX16_entry _ _ _ _ _ _ fu q1 a1 M _ eM2) tb_2145 tb_2142 tb_2144 ts_80 tb_8 ⟨rfl, hyX16_entry⟩ rfl rfl ⟨by decide, by decide⟩ (Nat.le_of_ble_eq_true rfl) dX16_remember_2 ?_
  refine g_astore X (pc := 5) [(4, pR v3), (0, pR (some a0)), (1, pI a1), (2, pI a2), (3, pI a3)] (lt_n hn (by decide)) rfl dX16_remember_5 ?_
  refine g_aload X (pc := 7) 0 rfl dX16_remember_7 ?_
  refine g_ifnonnull X (pc := 9) (tgt := 96) dX16_remember_9 (by decide) (fun hc => ?_) (fun hc => ?_)
  · have h := (if_neg hc).symm.trans h
    refine g_sub [1, 2, 3, 4, 0] [(0, pR (some a0)), (1, pI a1), (2, pI a2), (3, pI a3), (4, pR v3)] rfl ?_
    exact wX16_remember_L96 X hE hn fu   a0 a1 a2 a3 v3 M2 h
  · have h := (if_pos hc).symm.trans h
    refine g_aload_n X (pc := 12) 1 rfl rfl dX16_remember_12 ?_
    obtain ⟨v4, ev4, h⟩ := bd h
    refine g_getR X (pc := 13) fk_16_26 rfl rfl ev4 tb_1840 dX16_remember_13 ?_
    refine g_iconst X (pc := 16) (v := 0) dX16_remember_16 (by decide) ?_
    obtain ⟨v5, ev5, h⟩ := bd h
    refine g_aaload X (pc := 17) (k := 6) rfl rfl (by decide) ev5 dX16_remember_17 ?_
    refine g_astore X (pc := 18) [(4, pR v5), (0, pR (some a0)), (1, pI a1), (2, pI a2), (3, pI a3)] (lt_n hn (by decide)) rfl dX16_remember_18 ?_
    refine g_iconst X (pc := 20) (v := 1) dX16_remember_20 (by decide) ?_
    refine g_istore X (pc := 21) [(5, pI (1 : Int32)), (4, pR v5), (0, pR (some a0)), (1, pI a1), (2, pI a2), (3, pI a3)] (lt_n hn (by decide)) rfl dX16_remember_21 ?_
    refine g_sub [2, 3, 4, 5, 1, 0] [(0, pR (some a0)), (1, pI a1), (2, pI a2), (3, pI a3), (4, pR v5), (5, pI (1 : Int32))] rfl ?_
    exact wX16_remember_L23 X hE hn fu   fu a0 a1 a2 a3 v5 (1 : Int32) M2 h
theorem hyX16_remember : yX16_remember.cls ≠ "java/lang/invoke/MethodHandle" ∧ yX16_remember.cls ≠ "java/lang/invoke/VarHandle" ∧ (parseMethodDescriptor yX16_remember.desc).map (fun d => d.parameters.length) = some 3 := ⟨by decide +kernel, by decide +kernel, by decide +kernel⟩
theorem ctX16_remember (l : Launch) (E : Nat → Nat) (D : va_G) (dA : Nat → ClassId) (lo : Nat) (H0 : Heap) (fu : Nat) (a0 : Nat) (a1 : Int32) (a2 : Int32) (a3 : Int32) (M : Mm) (out : Mm) (h : fX16_remember fu a0 a1 a2 a3 M = some out) : Ct l E D dA lo H0 yX16_remember cX16_remember 7 none 2 51 [pR (some a0), pI a1, pI a2, pI a3] M none out := by
  refine ct_of (by decide +kernel) (Nat.le_of_ble_eq_true rfl) ?_
  intro x hl he hd ha ho hh hn hin X hE
  exact wX16_remember X hE hn fu a0 a1 a2 a3 M h
/-! WebHostModel.arpFrame(IIIIII)V -/
def fX16_arpFrame (fu : Nat)  (a0 : Nat) (a1 : Int32) (a2 : Int32) (a3 : Int32) (a4 : Int32) (a5 : Int32) (a6 : Int32)  (M : Mm) : Option (Mm) :=
    (rc M 16 (some a0)).bind fun q1 =>
    (fX16_put fu q1 (14 : Int32) (4 : Int32) (67584 : Int32) M).bind fun M2 =>
    (rc M2 16 (some a0)).bind fun q3 =>
    (fX16_put fu q3 (18 : Int32) (2 : Int32) (1540 : Int32) M2).bind fun M4 =>
    (rc M4 16 (some a0)).bind fun q5 =>
    (fX16_put fu q5 (20 : Int32) (2 : Int32) a1 M4).bind fun M6 =>
    (gI M6 16 1032 (some a0)).bind fun v7 =>
    (rc M6 16 (some a0)).bind fun q8 =>
    (fX16_put fu q8 (22 : Int32) (2 : Int32) v7 M6).bind fun M9 =>
    (gI M9 16 1033 (some a0)).bind fun v10 =>
    (rc M9 16 (some a0)).bind fun q11 =>
    (fX16_put fu q11 (24 : Int32) (4 : Int32) v10 M9).bind fun M12 =>
    (gI M12 16 1029 (some a0)).bind fun v13 =>
    (rc M12 16 (some a0)).bind fun q14 =>
    (fX16_put fu q14 (28 : Int32) (4 : Int32) v13 M12).bind fun M15 =>
    (rc M15 16 (some a0)).bind fun q16 =>
    (fX16_put fu q16 (32 : Int32) (2 : Int32) a4 M15).bind fun M17 =>
    (rc M17 16 (some a0)).bind fun q18 =>
    (fX16_put fu q18 (34 : Int32) (4 : Int32) a5 M17).bind fun M19 =>
    (rc M19 16 (some a0)).bind fun q20 =>
    (fX16_put fu q20 (38 : Int32) (4 : Int32) a6 M19).bind fun M21 =>
    (rc M21 16 (some a0)).bind fun q22 =>
    (fX16_send fu q22 a2 a3 (2054 : Int32) (28 : Int32) M21).bind fun M23 =>
    some M23
theorem dX16_arpFrame_0 : decode cX16_arpFrame 0 = .ok (.aload_n 0, 1) := by decide +kernel
theorem dX16_arpFrame_1 : decode cX16_arpFrame 1 = .ok (.bipush 14, 2) := by decide +kernel
theorem dX16_arpFrame_3 : decode cX16_arpFrame 3 = .ok (.iconst 4, 1) := by decide +kernel
theorem dX16_arpFrame_4 : decode cX16_arpFrame 4 = .ok (.ldc 201, 2) := by decide +kernel
theorem dX16_arpFrame_6 : decode cX16_arpFrame 6 = .ok (.invokevirtual 160, 3) := by decide +kernel
theorem dX16_arpFrame_9 : decode cX16_arpFrame 9 = .ok (.aload_n 0, 1) := by decide +kernel
theorem dX16_arpFrame_10 : decode cX16_arpFrame 10 = .ok (.bipush 18, 2) := by decide +kernel
theorem dX16_arpFrame_12 : decode cX16_arpFrame 12 = .ok (.iconst 2, 1) := by decide +kernel
theorem dX16_arpFrame_13 : decode cX16_arpFrame 13 = .ok (.sipush 1540, 3) := by decide +kernel
theorem dX16_arpFrame_16 : decode cX16_arpFrame 16 = .ok (.invokevirtual 160, 3) := by decide +kernel
theorem dX16_arpFrame_19 : decode cX16_arpFrame 19 = .ok (.aload_n 0, 1) := by decide +kernel
theorem dX16_arpFrame_20 : decode cX16_arpFrame 20 = .ok (.bipush 20, 2) := by decide +kernel
theorem dX16_arpFrame_22 : decode cX16_arpFrame 22 = .ok (.iconst 2, 1) := by decide +kernel
theorem dX16_arpFrame_23 : decode cX16_arpFrame 23 = .ok (.iload_n 1, 1) := by decide +kernel
theorem dX16_arpFrame_24 : decode cX16_arpFrame 24 = .ok (.invokevirtual 160, 3) := by decide +kernel
theorem dX16_arpFrame_27 : decode cX16_arpFrame 27 = .ok (.aload_n 0, 1) := by decide +kernel
theorem dX16_arpFrame_28 : decode cX16_arpFrame 28 = .ok (.bipush 22, 2) := by decide +kernel
theorem dX16_arpFrame_30 : decode cX16_arpFrame 30 = .ok (.iconst 2, 1) := by decide +kernel
theorem dX16_arpFrame_31 : decode cX16_arpFrame 31 = .ok (.aload_n 0, 1) := by decide +kernel
theorem dX16_arpFrame_32 : decode cX16_arpFrame 32 = .ok (.getfield 125, 3) := by decide +kernel
theorem dX16_arpFrame_35 : decode cX16_arpFrame 35 = .ok (.invokevirtual 160, 3) := by decide +kernel
theorem dX16_arpFrame_38 : decode cX16_arpFrame 38 = .ok (.aload_n 0, 1) := by decide +kernel
theorem dX16_arpFrame_39 : decode cX16_arpFrame 39 = .ok (.bipush 24, 2) := by decide +kernel
theorem dX16_arpFrame_41 : decode cX16_arpFrame 41 = .ok (.iconst 4, 1) := by decide +kernel
theorem dX16_arpFrame_42 : decode cX16_arpFrame 42 = .ok (.aload_n 0, 1) := by decide +kernel
theorem dX16_arpFrame_43 : decode cX16_arpFrame 43 = .ok (.getfield 128, 3) := by decide +kernel
theorem dX16_arpFrame_46 : decode cX16_arpFrame 46 = .ok (.invokevirtual 160, 3) := by decide +kernel
theorem dX16_arpFrame_49 : decode cX16_arpFrame 49 = .ok (.aload_n 0, 1) := by decide +kernel
theorem dX16_arpFrame_50 : decode cX16_arpFrame 50 = .ok (.bipush 28, 2) := by decide +kernel
theorem dX16_arpFrame_52 : decode cX16_arpFrame 52 = .ok (.iconst 4, 1) := by decide +kernel
theorem dX16_arpFrame_53 : decode cX16_arpFrame 53 = .ok (.aload_n 0, 1) := by decide +kernel
theorem dX16_arpFrame_54 : decode cX16_arpFrame 54 = .ok (.getfield 119, 3) := by decide +kernel
theorem dX16_arpFrame_57 : decode cX16_arpFrame 57 = .ok (.invokevirtual 160, 3) := by decide +kernel
theorem dX16_arpFrame_60 : decode cX16_arpFrame 60 = .ok (.aload_n 0, 1) := by decide +kernel
theorem dX16_arpFrame_61 : decode cX16_arpFrame 61 = .ok (.bipush 32, 2) := by decide +kernel
theorem dX16_arpFrame_63 : decode cX16_arpFrame 63 = .ok (.iconst 2, 1) := by decide +kernel
theorem dX16_arpFrame_64 : decode cX16_arpFrame 64 = .ok (.iload 4, 2) := by decide +kernel
theorem dX16_arpFrame_66 : decode cX16_arpFrame 66 = .ok (.invokevirtual 160, 3) := by decide +kernel
theorem dX16_arpFrame_69 : decode cX16_arpFrame 69 = .ok (.aload_n 0, 1) := by decide +kernel
theorem dX16_arpFrame_70 : decode cX16_arpFrame 70 = .ok (.bipush 34, 2) := by decide +kernel
theorem dX16_arpFrame_72 : decode cX16_arpFrame 72 = .ok (.iconst 4, 1) := by decide +kernel
theorem dX16_arpFrame_73 : decode cX16_arpFrame 73 = .ok (.iload 5, 2) := by decide +kernel
theorem dX16_arpFrame_75 : decode cX16_arpFrame 75 = .ok (.invokevirtual 160, 3) := by decide +kernel
theorem dX16_arpFrame_78 : decode cX16_arpFrame 78 = .ok (.aload_n 0, 1) := by decide +kernel
theorem dX16_arpFrame_79 : decode cX16_arpFrame 79 = .ok (.bipush 38, 2) := by decide +kernel
theorem dX16_arpFrame_81 : decode cX16_arpFrame 81 = .ok (.iconst 4, 1) := by decide +kernel
theorem dX16_arpFrame_82 : decode cX16_arpFrame 82 = .ok (.iload 6, 2) := by decide +kernel
theorem dX16_arpFrame_84 : decode cX16_arpFrame 84 = .ok (.invokevirtual 160, 3) := by decide +kernel
theorem dX16_arpFrame_87 : decode cX16_arpFrame 87 = .ok (.aload_n 0, 1) := by decide +kernel
theorem dX16_arpFrame_88 : decode cX16_arpFrame 88 = .ok (.iload_n 2, 1) := by decide +kernel
theorem dX16_arpFrame_89 : decode cX16_arpFrame 89 = .ok (.iload_n 3, 1) := by decide +kernel
theorem dX16_arpFrame_90 : decode cX16_arpFrame 90 = .ok (.sipush 2054, 3) := by decide +kernel
theorem dX16_arpFrame_93 : decode cX16_arpFrame 93 = .ok (.bipush 28, 2) := by decide +kernel
theorem dX16_arpFrame_95 : decode cX16_arpFrame 95 = .ok (.invokevirtual 197, 3) := by decide +kernel
theorem dX16_arpFrame_98 : decode cX16_arpFrame 98 = .ok (.return_, 1) := by decide +kernel
theorem wX16_arpFrame {x : GX} {n0 sl0 : Nat} (X : Cx x cX16_arpFrame RX16 none n0 sl0 2 51) {out : Mm} (hE : Ends x n0 sl0 none out) (hn : xn x = 7) (fu : Nat)   (a0 : Nat) (a1 : Int32) (a2 : Int32) (a3 : Int32) (a4 : Int32) (a5 : Int32) (a6 : Int32)  (M : Mm) (h : fX16_arpFrame fu  a0 a1 a2 a3 a4 a5 a6 M = some out) : Gw x M 0 [(0, pR (some a0)), (1, pI a1), (2, pI a2), (3, pI a3), (4, pI a4), (5, pI a5), (6, pI a6)] [] := by
  unfold fX16_arpFrame at h
  refine g_aload_n X (pc := 0) 0 rfl rfl dX16_arpFrame_0 ?_
  refine g_bipush X (pc := 1) (v := 14) dX16_arpFrame_1 (by decide) ?_
  refine g_iconst X (pc := 3) (v := 4) dX16_arpFrame_3 (by decide) ?_
  refine g_ldc X (pc := 4) tb_2091 dX16_arpFrame_4 ?_
  obtain ⟨q1, eq1, h⟩ := bd h
  obtain ⟨M2, eM2, h⟩ := bd h
  refine g_callV X (pc := 6) (M' := M2) (ro := none) (c := 16) rfl (by decide) (as := [pI (14 : Int32), pI (4 : Int32), pI (67584 : Int32)]) (as' := [pI (67584 : Int32), pI (4 : Int32), pI (14 : Int32)]) (st := []) eq1 (ctX16_put _ _ _ _ _ _ fu q1 (14 : Int32) (4 : Int32) (67584 : Int32) M _ eM2) tb_2095 tb_2092 tb_2094 ts_72 tb_8 ⟨rfl, hyX16_put⟩ rfl rfl ⟨by decide, by decide⟩ (Nat.le_of_ble_eq_true rfl) dX16_arpFrame_6 ?_
  refine g_aload_n X (pc := 9) 0 rfl rfl dX16_arpFrame_9 ?_
  refine g_bipush X (pc := 10) (v := 18) dX16_arpFrame_10 (by decide) ?_
  refine g_iconst X (pc := 12) (v := 2) dX16_arpFrame_12 (by decide) ?_
  refine g_sipush X (pc := 13) (v := 1540) dX16_arpFrame_13 (by decide) ?_
  obtain ⟨q3, eq3, h⟩ := bd h
  obtain ⟨M4, eM4, h⟩ := bd h
  refine g_callV X (pc := 16) (M' := M4) (ro := none) (c := 16) rfl (by decide) (as := [pI (18 : Int32), pI (2 : Int32), pI (1540 : Int32)]) (as' := [pI (1540 : Int32), pI (2 : Int32), pI (18 : Int32)]) (st := []) eq3 (ctX16_put _ _ _ _ _ _ fu q3 (18 : Int32) (2 : Int32) (1540 : Int32) M2 _ eM4) tb_2095 tb_2092 tb_2094 ts_72 tb_8 ⟨rfl, hyX16_put⟩ rfl rfl ⟨by decide, by decide⟩ (Nat.le_of_ble_eq_true rfl) dX16_arpFrame_16 ?_
  refine g_aload_n X (pc := 19) 0 rfl rfl dX16_arpFrame_19 ?_
  refine g_bipush X (pc := 20) (v := 20) dX16_arpFrame_20 (by decide) ?_
  refine g_iconst X (pc := 22) (v := 2) dX16_arpFrame_22 (by decide) ?_
  refine g_iload_n X (pc := 23) 1 rfl rfl dX16_arpFrame_23 ?_
  obtain ⟨q5, eq5, h⟩ := bd h
  obtain ⟨M6, eM6, h⟩ := bd h
  refine g_callV X (pc := 24) (M' := M6) (ro := none) (c := 16) rfl (by decide) (as := [pI (20 : Int32), pI (2 : Int32), pI a1]) (as' := [pI a1, pI (2 : Int32), pI (20 : Int32)]) (st := []) eq5 (ctX16_put _ _ _ _ _ _ fu q5 (20 : Int32) (2 : Int32) a1 M4 _ eM6) tb_2095 tb_2092 tb_2094 ts_72 tb_8 ⟨rfl, hyX16_put⟩ rfl rfl ⟨by decide, by decide⟩ (Nat.le_of_ble_eq_true rfl) dX16_arpFrame_24 ?_
  refine g_aload_n X (pc := 27) 0 rfl rfl dX16_arpFrame_27 ?_
  refine g_bipush X (pc := 28) (v := 22) dX16_arpFrame_28 (by decide) ?_
  refine g_iconst X (pc := 30) (v := 2) dX16_arpFrame_30 (by decide) ?_
  refine g_aload_n X (pc := 31) 0 rfl rfl dX16_arpFrame_31 ?_
  obtain ⟨v7, ev7, h⟩ := bd h
  refine g_getI X (pc := 32) fk_16_8 rfl rfl ev7 tb_1822 dX16_arpFrame_32 ?_
  obtain ⟨q8, eq8, h⟩ := bd h
  obtain ⟨M9, eM9, h⟩ := bd h
  refine g_callV X (pc := 35) (M' := M9) (ro := none) (c := 16) rfl (by decide) (as := [pI (22 : Int32), pI (2 : Int32), pI v7]) (as' := [pI v7, pI (2 : Int32), pI (22 : Int32)]) (st := []) eq8 (ctX16_put _ _ _ _ _ _ fu q8 (22 : Int32) (2 : Int32) v7 M6 _ eM9) tb_2095 tb_2092 tb_2094 ts_72 tb_8 ⟨rfl, hyX16_put⟩ rfl rfl ⟨by decide, by decide⟩ (Nat.le_of_ble_eq_true rfl) dX16_arpFrame_35 ?_
  refine g_aload_n X (pc := 38) 0 rfl rfl dX16_arpFrame_38 ?_
  refine g_bipush X (pc := 39) (v := 24) dX16_arpFrame_39 (by decide) ?_
  refine g_iconst X (pc := 41) (v := 4) dX16_arpFrame_41 (by decide) ?_
  refine g_aload_n X (pc := 42) 0 rfl rfl dX16_arpFrame_42 ?_
  obtain ⟨v10, ev10, h⟩ := bd h
  refine g_getI X (pc := 43) fk_16_9 rfl rfl ev10 tb_1823 dX16_arpFrame_43 ?_
  obtain ⟨q11, eq11, h⟩ := bd h
  obtain ⟨M12, eM12, h⟩ := bd h
  refine g_callV X (pc := 46) (M' := M12) (ro := none) (c := 16) rfl (by decide) (as := [pI (24 : Int32), pI (4 : Int32), pI v10]) (as' := [pI v10, pI (4 : Int32), pI (24 : Int32)]) (st := []) eq11 (ctX16_put _ _ _ _ _ _ fu q11 (24 : Int32) (4 : Int32) v10 M9 _ eM12) tb_2095 tb_2092 tb_2094 ts_72 tb_8 ⟨rfl, hyX16_put⟩ rfl rfl ⟨by decide, by decide⟩ (Nat.le_of_ble_eq_true rfl) dX16_arpFrame_46 ?_
  refine g_aload_n X (pc := 49) 0 rfl rfl dX16_arpFrame_49 ?_
  refine g_bipush X (pc := 50) (v := 28) dX16_arpFrame_50 (by decide) ?_
  refine g_iconst X (pc := 52) (v := 4) dX16_arpFrame_52 (by decide) ?_
  refine g_aload_n X (pc := 53) 0 rfl rfl dX16_arpFrame_53 ?_
  obtain ⟨v13, ev13, h⟩ := bd h
  refine g_getI X (pc := 54) fk_16_5 rfl rfl ev13 tb_1819 dX16_arpFrame_54 ?_
  obtain ⟨q14, eq14, h⟩ := bd h
  obtain ⟨M15, eM15, h⟩ := bd h
  refine g_callV X (pc := 57) (M' := M15) (ro := none) (c := 16) rfl (by decide) (as := [pI (28 : Int32), pI (4 : Int32), pI v13]) (as' := [pI v13, pI (4 : Int32), pI (28 : Int32)]) (st := []) eq14 (ctX16_put _ _ _ _ _ _ fu q14 (28 : Int32) (4 : Int32) v13 M12 _ eM15) tb_2095 tb_2092 tb_2094 ts_72 tb_8 ⟨rfl, hyX16_put⟩ rfl rfl ⟨by decide, by decide⟩ (Nat.le_of_ble_eq_true rfl) dX16_arpFrame_57 ?_
  refine g_aload_n X (pc := 60) 0 rfl rfl dX16_arpFrame_60 ?_
  refine g_bipush X (pc := 61) (v := 32) dX16_arpFrame_61 (by decide) ?_
  refine g_iconst X (pc := 63) (v := 2) dX16_arpFrame_63 (by decide) ?_
  refine g_iload X (pc := 64) 4 rfl dX16_arpFrame_64 ?_
  obtain ⟨q16, eq16, h⟩ := bd h
  obtain ⟨M17, eM17, h⟩ := bd h
  refine g_callV X (pc := 66) (M' := M17) (ro := none) (c := 16) rfl (by decide) (as := [pI (32 : Int32), pI (2 : Int32), pI a4]) (as' := [pI a4, pI (2 : Int32), pI (32 : Int32)]) (st := []) eq16 (ctX16_put _ _ _ _ _ _ fu q16 (32 : Int32) (2 : Int32) a4 M15 _ eM17) tb_2095 tb_2092 tb_2094 ts_72 tb_8 ⟨rfl, hyX16_put⟩ rfl rfl ⟨by decide, by decide⟩ (Nat.le_of_ble_eq_true rfl) dX16_arpFrame_66 ?_
  refine g_aload_n X (pc := 69) 0 rfl rfl dX16_arpFrame_69 ?_
  refine g_bipush X (pc := 70) (v := 34) dX16_arpFrame_70 (by decide) ?_
  refine g_iconst X (pc := 72) (v := 4) dX16_arpFrame_72 (by decide) ?_
  refine g_iload X (pc := 73) 5 rfl dX16_arpFrame_73 ?_
  obtain ⟨q18, eq18, h⟩ := bd h
  obtain ⟨M19, eM19, h⟩ := bd h
  refine g_callV X (pc := 75) (M' := M19) (ro := none) (c := 16) rfl (by decide) (as := [pI (34 : Int32), pI (4 : Int32), pI a5]) (as' := [pI a5, pI (4 : Int32), pI (34 : Int32)]) (st := []) eq18 (ctX16_put _ _ _ _ _ _ fu q18 (34 : Int32) (4 : Int32) a5 M17 _ eM19) tb_2095 tb_2092 tb_2094 ts_72 tb_8 ⟨rfl, hyX16_put⟩ rfl rfl ⟨by decide, by decide⟩ (Nat.le_of_ble_eq_true rfl) dX16_arpFrame_75 ?_
  refine g_aload_n X (pc := 78) 0 rfl rfl dX16_arpFrame_78 ?_
  refine g_bipush X (pc := 79) (v := 38) dX16_arpFrame_79 (by decide) ?_
  refine g_iconst X (pc := 81) (v := 4) dX16_arpFrame_81 (by decide) ?_
  refine g_iload X (pc := 82) 6 rfl dX16_arpFrame_82 ?_
  obtain ⟨q20, eq20, h⟩ := bd h
  obtain ⟨M21, eM21, h⟩ := bd h
  refine g_callV X (pc := 84) (M' := M21) (ro := none) (c := 16) rfl (by decide) (as := [pI (38 : Int32), pI (4 : Int32), pI a6]) (as' := [pI a6, pI (4 : Int32), pI (38 : Int32)]) (st := []) eq20 (ctX16_put _ _ _ _ _ _ fu q20 (38 : Int32) (4 : Int32) a6 M19 _ eM21) tb_2095 tb_2092 tb_2094 ts_72 tb_8 ⟨rfl, hyX16_put⟩ rfl rfl ⟨by decide, by decide⟩ (Nat.le_of_ble_eq_true rfl) dX16_arpFrame_84 ?_
  refine g_aload_n X (pc := 87) 0 rfl rfl dX16_arpFrame_87 ?_
  refine g_iload_n X (pc := 88) 2 rfl rfl dX16_arpFrame_88 ?_
  refine g_iload_n X (pc := 89) 3 rfl rfl dX16_arpFrame_89 ?_
  refine g_sipush X (pc := 90) (v := 2054) dX16_arpFrame_90 (by decide) ?_
  refine g_bipush X (pc := 93) (v := 28) dX16_arpFrame_93 (by decide) ?_
  obtain ⟨q22, eq22, h⟩ := bd h
  obtain ⟨M23, eM23, h⟩ := bd h
  refine g_callV X (pc := 95) (M' := M23) (ro := none) (c := 16) rfl (by decide) (as := [pI a2, pI a3, pI (2054 : Int32), pI (28 : Int32)]) (as' := [pI (28 : Int32), pI (2054 : Int32), pI a3, pI a2]) (st := []) eq22 (ctX16_send _ _ _ _ _ _ fu q22 a2 a3 (2054 : Int32) (28 : Int32) M21 _ eM23) tb_2099 tb_2096 tb_2098 ts_73 tb_8 ⟨rfl, hyX16_send⟩ rfl rfl ⟨by decide, by decide⟩ (Nat.le_of_ble_eq_true rfl) dX16_arpFrame_95 ?_
  obtain rfl := Option.some.inj h
  exact g_return X hE dX16_arpFrame_98
theorem hyX16_arpFrame : yX16_arpFrame.cls ≠ "java/lang/invoke/MethodHandle" ∧ yX16_arpFrame.cls ≠ "java/lang/invoke/VarHandle" ∧ (parseMethodDescriptor yX16_arpFrame.desc).map (fun d => d.parameters.length) = some 6 := ⟨by decide +kernel, by decide +kernel, by decide +kernel⟩
theorem ctX16_arpFrame (l : Launch) (E : Nat → Nat) (D : va_G) (dA : Nat → ClassId) (lo : Nat) (H0 : Heap) (fu : Nat) (a0 : Nat) (a1 : Int32) (a2 : Int32) (a3 : Int32) (a4 : Int32) (a5 : Int32) (a6 : Int32) (M : Mm) (out : Mm) (h : fX16_arpFrame fu a0 a1 a2 a3 a4 a5 a6 M = some out) : Ct l E D dA lo H0 yX16_arpFrame cX16_arpFrame 7 none 2 51 [pR (some a0), pI a1, pI a2, pI a3, pI a4, pI a5, pI a6] M none out := by
  refine ct_of (by decide +kernel) (Nat.le_of_ble_eq_true rfl) ?_
  intro x hl he hd ha ho hh hn hin X hE
  exact wX16_arpFrame X hE hn fu a0 a1 a2 a3 a4 a5 a6 M h
/-! WebHostModel.ask(I)V -/
def fX16_ask (fu : Nat)  (a0 : Nat) (a1 : Int32)  (M : Mm) : Option (Mm) :=
    (rc M 16 (some a0)).bind fun q1 =>
    (fX16_arpFrame fu q1 (1 : Int32) (65535 : Int32) (-1 : Int32) (0 : Int32) (0 : Int32) a1 M).bind fun M2 =>
    some M2
theorem dX16_ask_0 : decode cX16_ask 0 = .ok (.aload_n 0, 1) := by decide +kernel
theorem dX16_ask_1 : decode cX16_ask 1 = .ok (.iconst 1, 1) := by decide +kernel
theorem dX16_ask_2 : decode cX16_ask 2 = .ok (.ldc 14, 2) := by decide +kernel
theorem dX16_ask_4 : decode cX16_ask 4 = .ok (.iconst (-1), 1) := by decide +kernel
theorem dX16_ask_5 : decode cX16_ask 5 = .ok (.iconst 0, 1) := by decide +kernel
theorem dX16_ask_6 : decode cX16_ask 6 = .ok (.iconst 0, 1) := by decide +kernel
theorem dX16_ask_7 : decode cX16_ask 7 = .ok (.iload_n 1, 1) := by decide +kernel
theorem dX16_ask_8 : decode cX16_ask 8 = .ok (.invokevirtual 202, 3) := by decide +kernel
theorem dX16_ask_11 : decode cX16_ask 11 = .ok (.return_, 1) := by decide +kernel
theorem wX16_ask {x : GX} {n0 sl0 : Nat} (X : Cx x cX16_ask RX16 none n0 sl0 3 77) {out : Mm} (hE : Ends x n0 sl0 none out) (hn : xn x = 2) (fu : Nat)   (a0 : Nat) (a1 : Int32)  (M : Mm) (h : fX16_ask fu  a0 a1 M = some out) : Gw x M 0 [(0, pR (some a0)), (1, pI a1)] [] := by
  unfold fX16_ask at h
  refine g_aload_n X (pc := 0) 0 rfl rfl dX16_ask_0 ?_
  refine g_iconst X (pc := 1) (v := 1) dX16_ask_1 (by decide) ?_
  refine g_ldc X (pc := 2) tb_1565 dX16_ask_2 ?_
  refine g_iconst X (pc := 4) (v := (-1)) dX16_ask_4 (by decide) ?_
  refine g_iconst X (pc := 5) (v := 0) dX16_ask_5 (by decide) ?_
  refine g_iconst X (pc := 6) (v := 0) dX16_ask_6 (by decide) ?_
  refine g_iload_n X (pc := 7) 1 rfl rfl dX16_ask_7 ?_
  obtain ⟨q1, eq1, h⟩ := bd h
  obtain ⟨M2, eM2, h⟩ := bd h
  refine g_callV X (pc := 8) (M' := M2) (ro := none) (c := 16) rfl (by decide) (as := [pI (1 : Int32), pI (65535 : Int32), pI (-1 : Int32), pI (0 : Int32), pI (0 : Int32), pI a1]) (as' := [pI a1, pI (0 : Int32), pI (0 : Int32), pI (-1 : Int32), pI (65535 : Int32), pI (1 : Int32)]) (st := []) eq1 (ctX16_arpFrame _ _ _ _ _ _ fu q1 (1 : Int32) (65535 : Int32) (-1 : Int32) (0 : Int32) (0 : Int32) a1 M _ eM2) tb_2090 tb_2087 tb_2089 ts_71 tb_8 ⟨rfl, hyX16_arpFrame⟩ rfl rfl ⟨by decide, by decide⟩ (Nat.le_of_ble_eq_true rfl) dX16_ask_8 ?_
  obtain rfl := Option.some.inj h
  exact g_return X hE dX16_ask_11
theorem hyX16_ask : yX16_ask.cls ≠ "java/lang/invoke/MethodHandle" ∧ yX16_ask.cls ≠ "java/lang/invoke/VarHandle" ∧ (parseMethodDescriptor yX16_ask.desc).map (fun d => d.parameters.length) = some 1 := ⟨by decide +kernel, by decide +kernel, by decide +kernel⟩
theorem ctX16_ask (l : Launch) (E : Nat → Nat) (D : va_G) (dA : Nat → ClassId) (lo : Nat) (H0 : Heap) (fu : Nat) (a0 : Nat) (a1 : Int32) (M : Mm) (out : Mm) (h : fX16_ask fu a0 a1 M = some out) : Ct l E D dA lo H0 yX16_ask cX16_ask 2 none 3 77 [pR (some a0), pI a1] M none out := by
  refine ct_of (by decide +kernel) (Nat.le_of_ble_eq_true rfl) ?_
  intro x hl he hd ha ho hh hn hin X hE
  exact wX16_ask X hE hn fu a0 a1 M h
/-! WebHostModel.trayHalf(I)I -/
def fX16_trayHalf (fu : Nat)  (a0 : Nat) (a1 : Int32)  (M : Mm) : Option (Int32 × Mm) :=
    (gR M 16 1024 (some a0)).bind fun v1 =>
    (gA M 100 v1 a1).bind fun v2 =>
    (gR M 16 1024 (some a0)).bind fun v3 =>
    (gA M 100 v3 (a1 + (1 : Int32))).bind fun v4 =>
    some ((((v2 &&& (255 : Int32)) <<< ((8 : Int32) &&& 31)) ||| (v4 &&& (255 : Int32))), M)
theorem dX16_trayHalf_0 : decode cX16_trayHalf 0 = .ok (.aload_n 0, 1) := by decide +kernel
theorem dX16_trayHalf_1 : decode cX16_trayHalf 1 = .ok (.getfield 10, 3) := by decide +kernel
theorem dX16_trayHalf_4 : decode cX16_trayHalf 4 = .ok (.iload_n 1, 1) := by decide +kernel
theorem dX16_trayHalf_5 : decode cX16_trayHalf 5 = .ok (.baload, 1) := by decide +kernel
theorem dX16_trayHalf_6 : decode cX16_trayHalf 6 = .ok (.sipush 255, 3) := by decide +kernel
theorem dX16_trayHalf_9 : decode cX16_trayHalf 9 = .ok (.iand, 1) := by decide +kernel
theorem dX16_trayHalf_10 : decode cX16_trayHalf 10 = .ok (.bipush 8, 2) := by decide +kernel
theorem dX16_trayHalf_12 : decode cX16_trayHalf 12 = .ok (.ishl, 1) := by decide +kernel
theorem dX16_trayHalf_13 : decode cX16_trayHalf 13 = .ok (.aload_n 0, 1) := by decide +kernel
theorem dX16_trayHalf_14 : decode cX16_trayHalf 14 = .ok (.getfield 10, 3) := by decide +kernel
theorem dX16_trayHalf_17 : decode cX16_trayHalf 17 = .ok (.iload_n 1, 1) := by decide +kernel
theorem dX16_trayHalf_18 : decode cX16_trayHalf 18 = .ok (.iconst 1, 1) := by decide +kernel
theorem dX16_trayHalf_19 : decode cX16_trayHalf 19 = .ok (.iadd, 1) := by decide +kernel
theorem dX16_trayHalf_20 : decode cX16_trayHalf 20 = .ok (.baload, 1) := by decide +kernel
theorem dX16_trayHalf_21 : decode cX16_trayHalf 21 = .ok (.sipush 255, 3) := by decide +kernel
theorem dX16_trayHalf_24 : decode cX16_trayHalf 24 = .ok (.iand, 1) := by decide +kernel
theorem dX16_trayHalf_25 : decode cX16_trayHalf 25 = .ok (.ior, 1) := by decide +kernel
theorem dX16_trayHalf_26 : decode cX16_trayHalf 26 = .ok (.ireturn, 1) := by decide +kernel
theorem wX16_trayHalf {x : GX} {n0 sl0 : Nat} (X : Cx x cX16_trayHalf RX16 (some .int) n0 sl0 0 0) {out : Int32 × Mm} (hE : Ends x n0 sl0 (some (pI out.1)) out.2) (hn : xn x = 2) (fu : Nat)   (a0 : Nat) (a1 : Int32)  (M : Mm) (h : fX16_trayHalf fu  a0 a1 M = some out) : Gw x M 0 [(0, pR (some a0)), (1, pI a1)] [] := by
  unfold fX16_trayHalf at h
  refine g_aload_n X (pc := 0) 0 rfl rfl dX16_trayHalf_0 ?_
  obtain ⟨v1, ev1, h⟩ := bd h
  refine g_getR X (pc := 1) fk_16_0 rfl rfl ev1 tb_1814 dX16_trayHalf_1 ?_
  refine g_iload_n X (pc := 4) 1 rfl rfl dX16_trayHalf_4 ?_
  obtain ⟨v2, ev2, h⟩ := bd h
  refine g_baload X (pc := 5) ev2 dX16_trayHalf_5 ?_
  refine g_sipush X (pc := 6) (v := 255) dX16_trayHalf_6 (by decide) ?_
  refine g_iand X (pc := 9) dX16_trayHalf_9 ?_
  refine g_bipush X (pc := 10) (v := 8) dX16_trayHalf_10 (by decide) ?_
  refine g_ishl X (pc := 12) dX16_trayHalf_12 ?_
  refine g_aload_n X (pc := 13) 0 rfl rfl dX16_trayHalf_13 ?_
  obtain ⟨v3, ev3, h⟩ := bd h
  refine g_getR X (pc := 14) fk_16_0 rfl rfl ev3 tb_1814 dX16_trayHalf_14 ?_
  refine g_iload_n X (pc := 17) 1 rfl rfl dX16_trayHalf_17 ?_
  refine g_iconst X (pc := 18) (v := 1) dX16_trayHalf_18 (by decide) ?_
  refine g_iadd X (pc := 19) dX16_trayHalf_19 ?_
  obtain ⟨v4, ev4, h⟩ := bd h
  refine g_baload X (pc := 20) ev4 dX16_trayHalf_20 ?_
  refine g_sipush X (pc := 21) (v := 255) dX16_trayHalf_21 (by decide) ?_
  refine g_iand X (pc := 24) dX16_trayHalf_24 ?_
  refine g_ior X (pc := 25) dX16_trayHalf_25 ?_
  obtain rfl := Option.some.inj h
  exact g_ireturn X hE dX16_trayHalf_26
theorem hyX16_trayHalf : yX16_trayHalf.cls ≠ "java/lang/invoke/MethodHandle" ∧ yX16_trayHalf.cls ≠ "java/lang/invoke/VarHandle" ∧ (parseMethodDescriptor yX16_trayHalf.desc).map (fun d => d.parameters.length) = some 1 := ⟨by decide +kernel, by decide +kernel, by decide +kernel⟩
theorem ctX16_trayHalf (l : Launch) (E : Nat → Nat) (D : va_G) (dA : Nat → ClassId) (lo : Nat) (H0 : Heap) (fu : Nat) (a0 : Nat) (a1 : Int32) (M : Mm) (out : Int32 × Mm) (h : fX16_trayHalf fu a0 a1 M = some out) : Ct l E D dA lo H0 yX16_trayHalf cX16_trayHalf 2 (some .int) 0 0 [pR (some a0), pI a1] M (some (pI out.1)) out.2 := by
  refine ct_of (by decide +kernel) (Nat.le_of_ble_eq_true rfl) ?_
  intro x hl he hd ha ho hh hn hin X hE
  exact wX16_trayHalf X hE hn fu a0 a1 M h
/-! WebHostModel.trayWord(I)I -/
def fX16_trayWord (fu : Nat)  (a0 : Nat) (a1 : Int32)  (M : Mm) : Option (Int32 × Mm) :=
    (rc M 16 (some a0)).bind fun q1 =>
    b2 (fX16_trayHalf fu q1 a1 M) fun v3 M2 =>
    (rc M2 16 (some a0)).bind fun q4 =>
    b2 (fX16_trayHalf fu q4 (a1 + (2 : Int32)) M2) fun v6 M5 =>
    some (((v3 <<< ((16 : Int32) &&& 31)) ||| v6), M5)
theorem dX16_trayWord_0 : decode cX16_trayWord 0 = .ok (.aload_n 0, 1) := by decide +kernel
theorem dX16_trayWord_1 : decode cX16_trayWord 1 = .ok (.iload_n 1, 1) := by decide +kernel
theorem dX16_trayWord_2 : decode cX16_trayWord 2 = .ok (.invokevirtual 210, 3) := by decide +kernel
theorem dX16_trayWord_5 : decode cX16_trayWord 5 = .ok (.bipush 16, 2) := by decide +kernel
theorem dX16_trayWord_7 : decode cX16_trayWord 7 = .ok (.ishl, 1) := by decide +kernel
theorem dX16_trayWord_8 : decode cX16_trayWord 8 = .ok (.aload_n 0, 1) := by decide +kernel
theorem dX16_trayWord_9 : decode cX16_trayWord 9 = .ok (.iload_n 1, 1) := by decide +kernel
theorem dX16_trayWord_10 : decode cX16_trayWord 10 = .ok (.iconst 2, 1) := by decide +kernel
theorem dX16_trayWord_11 : decode cX16_trayWord 11 = .ok (.iadd, 1) := by decide +kernel
theorem dX16_trayWord_12 : decode cX16_trayWord 12 = .ok (.invokevirtual 210, 3) := by decide +kernel
theorem dX16_trayWord_15 : decode cX16_trayWord 15 = .ok (.ior, 1) := by decide +kernel
theorem dX16_trayWord_16 : decode cX16_trayWord 16 = .ok (.ireturn, 1) := by decide +kernel
theorem wX16_trayWord {x : GX} {n0 sl0 : Nat} (X : Cx x cX16_trayWord RX16 (some .int) n0 sl0 1 21) {out : Int32 × Mm} (hE : Ends x n0 sl0 (some (pI out.1)) out.2) (hn : xn x = 2) (fu : Nat)   (a0 : Nat) (a1 : Int32)  (M : Mm) (h : fX16_trayWord fu  a0 a1 M = some out) : Gw x M 0 [(0, pR (some a0)), (1, pI a1)] [] := by
  unfold fX16_trayWord at h
  refine g_aload_n X (pc := 0) 0 rfl rfl dX16_trayWord_0 ?_
  refine g_iload_n X (pc := 1) 1 rfl rfl dX16_trayWord_1 ?_
  obtain ⟨q1, eq1, h⟩ := bd h
  obtain ⟨v3, M2, eM2, h⟩ := b2d h
  refine g_callV X (pc := 2) (M' := M2) (ro := some (pI v3)) (c := 16) rfl (by decide) (as := [pI a1]) (as' := [pI a1]) (st := []) eq1 (ctX16_trayHalf _ _ _ _ _ _ fu q1 a1 M _ eM2) tb_2206 tb_2203 tb_2205 ts_93 tb_8 ⟨rfl, hyX16_trayHalf⟩ rfl rfl ⟨by decide, by decide⟩ (Nat.le_of_ble_eq_true rfl) dX16_trayWord_2 ?_
  refine g_bipush X (pc := 5) (v := 16) dX16_trayWord_5 (by decide) ?_
  refine g_ishl X (pc := 7) dX16_trayWord_7 ?_
  refine g_aload_n X (pc := 8) 0 rfl rfl dX16_trayWord_8 ?_
  refine g_iload_n X (pc := 9) 1 rfl rfl dX16_trayWord_9 ?_
  refine g_iconst X (pc := 10) (v := 2) dX16_trayWord_10 (by decide) ?_
  refine g_iadd X (pc := 11) dX16_trayWord_11 ?_
  obtain ⟨q4, eq4, h⟩ := bd h
  obtain ⟨v6, M5, eM5, h⟩ := b2d h
  refine g_callV X (pc := 12) (M' := M5) (ro := some (pI v6)) (c := 16) rfl (by decide) (as := [pI (a1 + (2 : Int32))]) (as' := [pI (a1 + (2 : Int32))]) (st := [pI (v3 <<< ((16 : Int32) &&& 31))]) eq4 (ctX16_trayHalf _ _ _ _ _ _ fu q4 (a1 + (2 : Int32)) M2 _ eM5) tb_2206 tb_2203 tb_2205 ts_93 tb_8 ⟨rfl, hyX16_trayHalf⟩ rfl rfl ⟨by decide, by decide⟩ (Nat.le_of_ble_eq_true rfl) dX16_trayWord_12 ?_
  refine g_ior X (pc := 15) dX16_trayWord_15 ?_
  obtain rfl := Option.some.inj h
  exact g_ireturn X hE dX16_trayWord_16
theorem hyX16_trayWord : yX16_trayWord.cls ≠ "java/lang/invoke/MethodHandle" ∧ yX16_trayWord.cls ≠ "java/lang/invoke/VarHandle" ∧ (parseMethodDescriptor yX16_trayWord.desc).map (fun d => d.parameters.length) = some 1 := ⟨by decide +kernel, by decide +kernel, by decide +kernel⟩
theorem ctX16_trayWord (l : Launch) (E : Nat → Nat) (D : va_G) (dA : Nat → ClassId) (lo : Nat) (H0 : Heap) (fu : Nat) (a0 : Nat) (a1 : Int32) (M : Mm) (out : Int32 × Mm) (h : fX16_trayWord fu a0 a1 M = some out) : Ct l E D dA lo H0 yX16_trayWord cX16_trayWord 2 (some .int) 1 21 [pR (some a0), pI a1] M (some (pI out.1)) out.2 := by
  refine ct_of (by decide +kernel) (Nat.le_of_ble_eq_true rfl) ?_
  intro x hl he hd ha ho hh hn hin X hE
  exact wX16_trayWord X hE hn fu a0 a1 M h
/-! WebHostModel.arp()V -/
def fX16_arp_L116 (fu : Nat)  (a0 : Nat) (a1 : Int32) (a2 : Int32) (a3 : Int32) (a4 : Int32) (a5 : Int32)  (M : Mm) : Option (Mm) :=
    if a1 = (1 : Int32) then (
    (gI M 16 1029 (some a0)).bind fun v1 =>
    if a5 = v1 then (
    (rc M 16 (some a0)).bind fun q2 =>
    (fX16_arpFrame fu q2 (2 : Int32) a2 a3 a2 a3 a4 M).bind fun M3 =>
    some M3)
    else (
    some M))
    else (
    some M)
def fX16_arp_L108 (fu : Nat)  (a0 : Nat) (a1 : Int32) (a2 : Int32) (a3 : Int32) (a4 : Int32) (a5 : Int32)  (M : Mm) : Option (Mm) :=
    (rc M 16 (some a0)).bind fun q1 =>
    (fX16_remember fu q1 a4 a2 a3 M).bind fun M2 =>
    fX16_arp_L116 fu  a0 a1 a2 a3 a4 a5 M2
def fX16_arp_L51 (fu : Nat)  (a0 : Nat) (a1 : Int32)  (M : Mm) : Option (Mm) :=
    (rc M 16 (some a0)).bind fun q1 =>
    b2 (fX16_trayHalf fu q1 (22 : Int32) M) fun v3 M2 =>
    (rc M2 16 (some a0)).bind fun q4 =>
    b2 (fX16_trayWord fu q4 (24 : Int32) M2) fun v6 M5 =>
    (rc M5 16 (some a0)).bind fun q7 =>
    b2 (fX16_trayWord fu q7 (28 : Int32) M5) fun v9 M8 =>
    (rc M8 16 (some a0)).bind fun q10 =>
    b2 (fX16_trayWord fu q10 (38 : Int32) M8) fun v12 M11 =>
    (rc M11 16 (some a0)).bind fun q13 =>
    b2 (fX16_entry fu q13 v9 M11) fun v15 M14 =>
    if v15 = none then (
    (gI M14 16 1029 (some a0)).bind fun v16 =>
    if v12 = v16 then (
    (gI M14 16 1029 (some a0)).bind fun v17 =>
    if v9 = v17 then (
    fX16_arp_L116 fu  a0 a1 v3 v6 v9 v12 M14)
    else (
    fX16_arp_L108 fu  a0 a1 v3 v6 v9 v12 M14))
    else (
    fX16_arp_L116 fu  a0 a1 v3 v6 v9 v12 M14))
    else (
    fX16_arp_L108 fu  a0 a1 v3 v6 v9 v12 M14)
def fX16_arp (fu : Nat)  (a0 : Nat)  (M : Mm) : Option (Mm) :=
    (gI M 16 1025 (some a0)).bind fun v1 =>
    if v1 < (42 : Int32) then (
    some M)
    else (
    (rc M 16 (some a0)).bind fun q2 =>
    b2 (fX16_trayWord fu q2 (14 : Int32) M) fun v4 M3 =>
    if v4 = (67584 : Int32) then (
    (rc M3 16 (some a0)).bind fun q5 =>
    b2 (fX16_trayHalf fu q5 (18 : Int32) M3) fun v7 M6 =>
    if v7 = (1540 : Int32) then (
    (rc M6 16 (some a0)).bind fun q8 =>
    b2 (fX16_trayHalf fu q8 (20 : Int32) M6) fun v10 M9 =>
    if v10 = (1 : Int32) then (
    fX16_arp_L51 fu  a0 v10 M9)
    else (
    if v10 = (2 : Int32) then (
    fX16_arp_L51 fu  a0 v10 M9)
    else (
    some M9)))
    else (
    some M6))
    else (
    some M3))
theorem dX16_arp_0 : decode cX16_arp 0 = .ok (.aload_n 0, 1) := by decide +kernel
theorem dX16_arp_1 : decode cX16_arp 1 = .ok (.getfield 84, 3) := by decide +kernel
theorem dX16_arp_4 : decode cX16_arp 4 = .ok (.bipush 42, 2) := by decide +kernel
theorem dX16_arp_6 : decode cX16_arp 6 = .ok (.if_icmp .lt 26, 3) := by decide +kernel
theorem dX16_arp_9 : decode cX16_arp 9 = .ok (.aload_n 0, 1) := by decide +kernel
theorem dX16_arp_10 : decode cX16_arp 10 = .ok (.bipush 14, 2) := by decide +kernel
theorem dX16_arp_12 : decode cX16_arp 12 = .ok (.invokevirtual 206, 3) := by decide +kernel
theorem dX16_arp_15 : decode cX16_arp 15 = .ok (.ldc 201, 2) := by decide +kernel
theorem dX16_arp_17 : decode cX16_arp 17 = .ok (.if_icmp .ne 15, 3) := by decide +kernel
theorem dX16_arp_20 : decode cX16_arp 20 = .ok (.aload_n 0, 1) := by decide +kernel
theorem dX16_arp_21 : decode cX16_arp 21 = .ok (.bipush 18, 2) := by decide +kernel
theorem dX16_arp_23 : decode cX16_arp 23 = .ok (.invokevirtual 210, 3) := by decide +kernel
theorem dX16_arp_26 : decode cX16_arp 26 = .ok (.sipush 1540, 3) := by decide +kernel
theorem dX16_arp_29 : decode cX16_arp 29 = .ok (.if_icmp .eq 4, 3) := by decide +kernel
theorem dX16_arp_32 : decode cX16_arp 32 = .ok (.return_, 1) := by decide +kernel
theorem dX16_arp_33 : decode cX16_arp 33 = .ok (.aload_n 0, 1) := by decide +kernel
theorem dX16_arp_34 : decode cX16_arp 34 = .ok (.bipush 20, 2) := by decide +kernel
theorem dX16_arp_36 : decode cX16_arp 36 = .ok (.invokevirtual 210, 3) := by decide +kernel
theorem dX16_arp_39 : decode cX16_arp 39 = .ok (.istore_n 1, 1) := by decide +kernel
theorem dX16_arp_40 : decode cX16_arp 40 = .ok (.iload_n 1, 1) := by decide +kernel
theorem dX16_arp_41 : decode cX16_arp 41 = .ok (.iconst 1, 1) := by decide +kernel
theorem dX16_arp_42 : decode cX16_arp 42 = .ok (.if_icmp .eq 9, 3) := by decide +kernel
theorem dX16_arp_45 : decode cX16_arp 45 = .ok (.iload_n 1, 1) := by decide +kernel
theorem dX16_arp_46 : decode cX16_arp 46 = .ok (.iconst 2, 1) := by decide +kernel
theorem dX16_arp_47 : decode cX16_arp 47 = .ok (.if_icmp .eq 4, 3) := by decide +kernel
theorem dX16_arp_50 : decode cX16_arp 50 = .ok (.return_, 1) := by decide +kernel
theorem dX16_arp_51 : decode cX16_arp 51 = .ok (.aload_n 0, 1) := by decide +kernel
theorem dX16_arp_52 : decode cX16_arp 52 = .ok (.bipush 22, 2) := by decide +kernel
theorem dX16_arp_54 : decode cX16_arp 54 = .ok (.invokevirtual 210, 3) := by decide +kernel
theorem dX16_arp_57 : decode cX16_arp 57 = .ok (.istore_n 2, 1) := by decide +kernel
theorem dX16_arp_58 : decode cX16_arp 58 = .ok (.aload_n 0, 1) := by decide +kernel
theorem dX16_arp_59 : decode cX16_arp 59 = .ok (.bipush 24, 2) := by decide +kernel
theorem dX16_arp_61 : decode cX16_arp 61 = .ok (.invokevirtual 206, 3) := by decide +kernel
theorem dX16_arp_64 : decode cX16_arp 64 = .ok (.istore_n 3, 1) := by decide +kernel
theorem dX16_arp_65 : decode cX16_arp 65 = .ok (.aload_n 0, 1) := by decide +kernel
theorem dX16_arp_66 : decode cX16_arp 66 = .ok (.bipush 28, 2) := by decide +kernel
theorem dX16_arp_68 : decode cX16_arp 68 = .ok (.invokevirtual 206, 3) := by decide +kernel
theorem dX16_arp_71 : decode cX16_arp 71 = .ok (.istore 4, 2) := by decide +kernel
theorem dX16_arp_73 : decode cX16_arp 73 = .ok (.aload_n 0, 1) := by decide +kernel
theorem dX16_arp_74 : decode cX16_arp 74 = .ok (.bipush 38, 2) := by decide +kernel
theorem dX16_arp_76 : decode cX16_arp 76 = .ok (.invokevirtual 206, 3) := by decide +kernel
theorem dX16_arp_79 : decode cX16_arp 79 = .ok (.istore 5, 2) := by decide +kernel
theorem dX16_arp_81 : decode cX16_arp 81 = .ok (.aload_n 0, 1) := by decide +kernel
theorem dX16_arp_82 : decode cX16_arp 82 = .ok (.iload 4, 2) := by decide +kernel
theorem dX16_arp_84 : decode cX16_arp 84 = .ok (.invokevirtual 174, 3) := by decide +kernel
theorem dX16_arp_87 : decode cX16_arp 87 = .ok (.ifnonnull 21, 3) := by decide +kernel
theorem dX16_arp_90 : decode cX16_arp 90 = .ok (.iload 5, 2) := by decide +kernel
theorem dX16_arp_92 : decode cX16_arp 92 = .ok (.aload_n 0, 1) := by decide +kernel
theorem dX16_arp_93 : decode cX16_arp 93 = .ok (.getfield 119, 3) := by decide +kernel
theorem dX16_arp_96 : decode cX16_arp 96 = .ok (.if_icmp .ne 20, 3) := by decide +kernel
theorem dX16_arp_99 : decode cX16_arp 99 = .ok (.iload 4, 2) := by decide +kernel
theorem dX16_arp_101 : decode cX16_arp 101 = .ok (.aload_n 0, 1) := by decide +kernel
theorem dX16_arp_102 : decode cX16_arp 102 = .ok (.getfield 119, 3) := by decide +kernel
theorem dX16_arp_105 : decode cX16_arp 105 = .ok (.if_icmp .eq 11, 3) := by decide +kernel
theorem dX16_arp_108 : decode cX16_arp 108 = .ok (.aload_n 0, 1) := by decide +kernel
theorem dX16_arp_109 : decode cX16_arp 109 = .ok (.iload 4, 2) := by decide +kernel
theorem dX16_arp_111 : decode cX16_arp 111 = .ok (.iload_n 2, 1) := by decide +kernel
theorem dX16_arp_112 : decode cX16_arp 112 = .ok (.iload_n 3, 1) := by decide +kernel
theorem dX16_arp_113 : decode cX16_arp 113 = .ok (.invokevirtual 213, 3) := by decide +kernel
theorem dX16_arp_116 : decode cX16_arp 116 = .ok (.iload_n 1, 1) := by decide +kernel
theorem dX16_arp_117 : decode cX16_arp 117 = .ok (.iconst 1, 1) := by decide +kernel
theorem dX16_arp_118 : decode cX16_arp 118 = .ok (.if_icmp .ne 23, 3) := by decide +kernel
theorem dX16_arp_121 : decode cX16_arp 121 = .ok (.iload 5, 2) := by decide +kernel
theorem dX16_arp_123 : decode cX16_arp 123 = .ok (.aload_n 0, 1) := by decide +kernel
theorem dX16_arp_124 : decode cX16_arp 124 = .ok (.getfield 119, 3) := by decide +kernel
theorem dX16_arp_127 : decode cX16_arp 127 = .ok (.if_icmp .ne 14, 3) := by decide +kernel
theorem dX16_arp_130 : decode cX16_arp 130 = .ok (.aload_n 0, 1) := by decide +kernel
theorem dX16_arp_131 : decode cX16_arp 131 = .ok (.iconst 2, 1) := by decide +kernel
theorem dX16_arp_132 : decode cX16_arp 132 = .ok (.iload_n 2, 1) := by decide +kernel
theorem dX16_arp_133 : decode cX16_arp 133 = .ok (.iload_n 3, 1) := by decide +kernel
theorem dX16_arp_134 : decode cX16_arp 134 = .ok (.iload_n 2, 1) := by decide +kernel
theorem dX16_arp_135 : decode cX16_arp 135 = .ok (.iload_n 3, 1) := by decide +kernel
theorem dX16_arp_136 : decode cX16_arp 136 = .ok (.iload 4, 2) := by decide +kernel
theorem dX16_arp_138 : decode cX16_arp 138 = .ok (.invokevirtual 202, 3) := by decide +kernel
theorem dX16_arp_141 : decode cX16_arp 141 = .ok (.return_, 1) := by decide +kernel
theorem wX16_arp_L116 {x : GX} {n0 sl0 : Nat} (X : Cx x cX16_arp RX16 none n0 sl0 3 77) {out : Mm} (hE : Ends x n0 sl0 none out) (hn : xn x = 6) (fu : Nat)   (a0 : Nat) (a1 : Int32) (a2 : Int32) (a3 : Int32) (a4 : Int32) (a5 : Int32)  (M : Mm) (h : fX16_arp_L116 fu  a0 a1 a2 a3 a4 a5 M = some out) : Gw x M 116 [(0, pR (some a0)), (1, pI a1), (2, pI a2), (3, pI a3), (4, pI a4), (5, pI a5)] [] := by
  unfold fX16_arp_L116 at h
  refine g_iload_n X (pc := 116) 1 rfl rfl dX16_arp_116 ?_
  refine g_iconst X (pc := 117) (v := 1) dX16_arp_117 (by decide) ?_
  refine g_icmp_ne X (pc := 118) (tgt := 141) dX16_arp_118 (by decide) (fun hc => ?_) (fun hc => ?_)
  · have h := (if_neg hc).symm.trans h
    obtain rfl := Option.some.inj h
    exact g_return X hE dX16_arp_141
  · have h := (if_pos hc).symm.trans h
    refine g_iload X (pc := 121) 5 rfl dX16_arp_121 ?_
    refine g_aload_n X (pc := 123) 0 rfl rfl dX16_arp_123 ?_
    obtain ⟨v1, ev1, h⟩ := bd h
    refine g_getI X (pc := 124) fk_16_5 rfl rfl ev1 tb_1819 dX16_arp_124 ?_
    refine g_icmp_ne X (pc := 127) (tgt := 141) dX16_arp_127 (by decide) (fun hc => ?_) (fun hc => ?_)
    · have h := (if_neg hc).symm.trans h
      obtain rfl := Option.some.inj h
      exact g_return X hE dX16_arp_141
    · have h := (if_pos hc).symm.trans h
      refine g_aload_n X (pc := 130) 0 rfl rfl dX16_arp_130 ?_
      refine g_iconst X (pc := 131) (v := 2) dX16_arp_131 (by decide) ?_
      refine g_iload_n X (pc := 132) 2 rfl rfl dX16_arp_132 ?_
      refine g_iload_n X (pc := 133) 3 rfl rfl dX16_arp_133 ?_
      refine g_iload_n X (pc := 134) 2 rfl rfl dX16_arp_134 ?_
      refine g_iload_n X (pc := 135) 3 rfl rfl dX16_arp_135 ?_
      refine g_iload X (pc := 136) 4 rfl dX16_arp_136 ?_
      obtain ⟨q2, eq2, h⟩ := bd h
      obtain ⟨M3, eM3, h⟩ := bd h
      refine g_callV X (pc := 138) (M' := M3) (ro := none) (c := 16) rfl (by decide) (as := [pI (2 : Int32), pI a2, pI a3, pI a2, pI a3, pI a4]) (as' := [pI a4, pI a3, pI a2, pI a3, pI a2, pI (2 : Int32)]) (st := []) eq2 (ctX16_arpFrame _ _ _ _ _ _ fu q2 (2 : Int32) a2 a3 a2 a3 a4 M _ eM3) tb_2090 tb_2087 tb_2089 ts_71 tb_8 ⟨rfl, hyX16_arpFrame⟩ rfl rfl ⟨by decide, by decide⟩ (Nat.le_of_ble_eq_true rfl) dX16_arp_138 ?_
      obtain rfl := Option.some.inj h
      exact g_return X hE dX16_arp_141
theorem wX16_arp_L108 {x : GX} {n0 sl0 : Nat} (X : Cx x cX16_arp RX16 none n0 sl0 3 77) {out : Mm} (hE : Ends x n0 sl0 none out) (hn : xn x = 6) (fu : Nat)   (a0 : Nat) (a1 : Int32) (a2 : Int32) (a3 : Int32) (a4 : Int32) (a5 : Int32)  (M : Mm) (h : fX16_arp_L108 fu  a0 a1 a2 a3 a4 a5 M = some out) : Gw x M 108 [(0, pR (some a0)), (1, pI a1), (2, pI a2), (3, pI a3), (4, pI a4), (5, pI a5)] [] := by
  unfold fX16_arp_L108 at h
  refine g_aload_n X (pc := 108) 0 rfl rfl dX16_arp_108 ?_
  refine g_iload X (pc := 109) 4 rfl dX16_arp_109 ?_
  refine g_iload_n X (pc := 111) 2 rfl rfl dX16_arp_111 ?_
  refine g_iload_n X (pc := 112) 3 rfl rfl dX16_arp_112 ?_
  obtain ⟨q1, eq1, h⟩ := bd h
  obtain ⟨M2, eM2, h⟩ := bd h
  refine g_callV X (pc := 113) (M' := M2) (ro := none) (c := 16) rfl (by decide) (as := [pI a4, pI a2, pI a3]) (as' := [pI a3, pI a2, pI a4]) (st := []) eq1 (ctX16_remember _ _ _ _ _ _ fu q1 a4 a2 a3 M _ eM2) tb_2218 tb_2215 tb_2217 ts_96 tb_8 ⟨rfl, hyX16_remember⟩ rfl rfl ⟨by decide, by decide⟩ (Nat.le_of_ble_eq_true rfl) dX16_arp_113 ?_
  exact wX16_arp_L116 X hE hn fu   a0 a1 a2 a3 a4 a5 M2 h
theorem wX16_arp_L51 {x : GX} {n0 sl0 : Nat} (X : Cx x cX16_arp RX16 none n0 sl0 3 77) {out : Mm} (hE : Ends x n0 sl0 none out) (hn : xn x = 6) (fu : Nat)   (a0 : Nat) (a1 : Int32)  (M : Mm) (h : fX16_arp_L51 fu  a0 a1 M = some out) : Gw x M 51 [(0, pR (some a0)), (1, pI a1)] [] := by
  unfold fX16_arp_L51 at h
  refine g_aload_n X (pc := 51) 0 rfl rfl dX16_arp_51 ?_
  refine g_bipush X (pc := 52) (v := 22) dX16_arp_52 (by decide) ?_
  obtain ⟨q1, eq1, h⟩ := bd h
  obtain ⟨v3, M2, eM2, h⟩ := b2d h
  refine g_callV X (pc := 54) (M' := M2) (ro := some (pI v3)) (c := 16) rfl (by decide) (as := [pI (22 : Int32)]) (as' := [pI (22 : Int32)]) (st := []) eq1 (ctX16_trayHalf _ _ _ _ _ _ fu q1 (22 : Int32) M _ eM2) tb_2206 tb_2203 tb_2205 ts_93 tb_8 ⟨rfl, hyX16_trayHalf⟩ rfl rfl ⟨by decide, by decide⟩ (Nat.le_of_ble_eq_true rfl) dX16_arp_54 ?_
  refine g_istore_n X (pc := 57) [(2, pI v3), (0, pR (some a0)), (1, pI a1)] rfl (lt_n hn (by decide)) rfl dX16_arp_57 ?_
  refine g_aload_n X (pc := 58) 1 rfl rfl dX16_arp_58 ?_
  refine g_bipush X (pc := 59) (v := 24) dX16_arp_59 (by decide) ?_
  obtain ⟨q4, eq4, h⟩ := bd h
  obtain ⟨v6, M5, eM5, h⟩ := b2d h
  refine g_callV X (pc := 61) (M' := M5) (ro := some (pI v6)) (c := 16) rfl (by decide) (as := [pI (24 : Int32)]) (as' := [pI (24 : Int32)]) (st := []) eq4 (ctX16_trayWord _ _ _ _ _ _ fu q4 (24 : Int32) M2 _ eM5) tb_2210 tb_2207 tb_2209 ts_94 tb_8 ⟨rfl, hyX16_trayWord⟩ rfl rfl ⟨by decide, by decide⟩ (Nat.le_of_ble_eq_true rfl) dX16_arp_61 ?_
  refine g_istore_n X (pc := 64) [(3, pI v6), (2, pI v3), (0, pR (some a0)), (1, pI a1)] rfl (lt_n hn (by decide)) rfl dX16_arp_64 ?_
  refine g_aload_n X (pc := 65) 2 rfl rfl dX16_arp_65 ?_
  refine g_bipush X (pc := 66) (v := 28) dX16_arp_66 (by decide) ?_
  obtain ⟨q7, eq7, h⟩ := bd h
  obtain ⟨v9, M8, eM8, h⟩ := b2d h
  refine g_callV X (pc := 68) (M' := M8) (ro := some (pI v9)) (c := 16) rfl (by decide) (as := [pI (28 : Int32)]) (as' := [pI (28 : Int32)]) (st := []) eq7 (ctX16_trayWord _ _ _ _ _ _ fu q7 (28 : Int32) M5 _ eM8) tb_2210 tb_2207 tb_2209 ts_94 tb_8 ⟨rfl, hyX16_trayWord⟩ rfl rfl ⟨by decide, by decide⟩ (Nat.le_of_ble_eq_true rfl) dX16_arp_68 ?_
  refine g_istore X (pc := 71) [(4, pI v9), (3, pI v6), (2, pI v3), (0, pR (some a0)), (1, pI a1)] (lt_n hn (by decide)) rfl dX16_arp_71 ?_
  refine g_aload_n X (pc := 73) 3 rfl rfl dX16_arp_73 ?_
  refine g_bipush X (pc := 74) (v := 38) dX16_arp_74 (by decide) ?_
  obtain ⟨q10, eq10, h⟩ := bd h
  obtain ⟨v12, M11, eM11, h⟩ := b2d h
  refine g_callV X (pc := 76) (M' := M11) (ro := some (pI v12)) (c := 16) rfl (by decide) (as := [pI (38 : Int32)]) (as' := [pI (38 : Int32)]) (st := []) eq10 (ctX16_trayWord _ _ _ _ _ _ fu q10 (38 : Int32) M8 _ eM11) tb_2210 tb_2207 tb_2209 ts_94 tb_8 ⟨rfl, hyX16_trayWord⟩ rfl rfl ⟨by decide, by decide⟩ (Nat.le_of_ble_eq_true rfl) dX16_arp_76 ?_
  refine g_istore X (pc := 79) [(5, pI v12), (4, pI v9), (3, pI v6), (2, pI v3), (0, pR (some a0)), (1, pI a1)] (lt_n hn (by decide)) rfl dX16_arp_79 ?_
  refine g_aload_n X (pc := 81) 4 rfl rfl dX16_arp_81 ?_
  refine g_iload X (pc := 82) 1 rfl dX16_arp_82 ?_
  obtain ⟨q13, eq13, h⟩ := bd h
  obtain ⟨v15, M14, eM14, h⟩ := b2d h
  refine g_callV X (pc := 84) (M' := M14) (ro := some (pR v15)) (c := 16) rfl (by decide) (as := [pI v9]) (as' := [pI v9]) (st := []) eq13 (ctX16_entry _ _ _ _ _ _ fu q13 v9 M11 _ eM14) tb_2145 tb_2142 tb_2144 ts_80 tb_8 ⟨rfl, hyX16_entry⟩ rfl rfl ⟨by decide, by decide⟩ (Nat.le_of_ble_eq_true rfl) dX16_arp_84 ?_
  refine g_ifnonnull X (pc := 87) (tgt := 108) dX16_arp_87 (by decide) (fun hc => ?_) (fun hc => ?_)
  · have h := (if_neg hc).symm.trans h
    refine g_sub [4, 5, 3, 2, 1, 0] [(0, pR (some a0)), (1, pI a1), (2, pI v3), (3, pI v6), (4, pI v9), (5, pI v12)] rfl ?_
    exact wX16_arp_L108 X hE hn fu   a0 a1 v3 v6 v9 v12 M14 h
  · have h := (if_pos hc).symm.trans h
    refine g_iload X (pc := 90) 0 rfl dX16_arp_90 ?_
    refine g_aload_n X (pc := 92) 4 rfl rfl dX16_arp_92 ?_
    obtain ⟨v16, ev16, h⟩ := bd h
    refine g_getI X (pc := 93) fk_16_5 rfl rfl ev16 tb_1819 dX16_arp_93 ?_
    refine g_icmp_ne X (pc := 96) (tgt := 116) dX16_arp_96 (by decide) (fun hc => ?_) (fun hc => ?_)
    · have h := (if_neg hc).symm.trans h
      refine g_sub [4, 5, 3, 2, 1, 0] [(0, pR (some a0)), (1, pI a1), (2, pI v3), (3, pI v6), (4, pI v9), (5, pI v12)] rfl ?_
      exact wX16_arp_L116 X hE hn fu   a0 a1 v3 v6 v9 v12 M14 h
    · have h := (if_pos hc).symm.trans h
      refine g_iload X (pc := 99) 1 rfl dX16_arp_99 ?_
      refine g_aload_n X (pc := 101) 4 rfl rfl dX16_arp_101 ?_
      obtain ⟨v17, ev17, h⟩ := bd h
      refine g_getI X (pc := 102) fk_16_5 rfl rfl ev17 tb_1819 dX16_arp_102 ?_
      refine g_icmp_eq X (pc := 105) (tgt := 116) dX16_arp_105 (by decide) (fun hc => ?_) (fun hc => ?_)
      · have h := (if_pos hc).symm.trans h
        refine g_sub [4, 5, 3, 2, 1, 0] [(0, pR (some a0)), (1, pI a1), (2, pI v3), (3, pI v6), (4, pI v9), (5, pI v12)] rfl ?_
        exact wX16_arp_L116 X hE hn fu   a0 a1 v3 v6 v9 v12 M14 h
      · have h := (if_neg hc).symm.trans h
        refine g_sub [4, 5, 3, 2, 1, 0] [(0, pR (some a0)), (1, pI a1), (2, pI v3), (3, pI v6), (4, pI v9), (5, pI v12)] rfl ?_
        exact wX16_arp_L108 X hE hn fu   a0 a1 v3 v6 v9 v12 M14 h
theorem wX16_arp {x : GX} {n0 sl0 : Nat} (X : Cx x cX16_arp RX16 none n0 sl0 3 77) {out : Mm} (hE : Ends x n0 sl0 none out) (hn : xn x = 6) (fu : Nat)   (a0 : Nat)  (M : Mm) (h : fX16_arp fu  a0 M = some out) : Gw x M 0 [(0, pR (some a0))] [] := by
  unfold fX16_arp at h
  refine g_aload_n X (pc := 0) 0 rfl rfl dX16_arp_0 ?_
  obtain ⟨v1, ev1, h⟩ := bd h
  refine g_getI X (pc := 1) fk_16_1 rfl rfl ev1 tb_1815 dX16_arp_1 ?_
  refine g_bipush X (pc := 4) (v := 42) dX16_arp_4 (by decide) ?_
  refine g_icmp_lt X (pc := 6) (tgt := 32) dX16_arp_6 (by decide) (fun hc => ?_) (fun hc => ?_)
  · have h := (if_pos hc).symm.trans h
    obtain rfl := Option.some.inj h
    exact g_return X hE dX16_arp_32
  · have h := (if_neg hc).symm.trans h
    refine g_aload_n X (pc := 9) 0 rfl rfl dX16_arp_9 ?_
    refine g_bipush X (pc := 10) (v := 14) dX16_arp_10 (by decide) ?_
    obtain ⟨q2, eq2, h⟩ := bd h
    obtain ⟨v4, M3, eM3, h⟩ := b2d h
    refine g_callV X (pc := 12) (M' := M3) (ro := some (pI v4)) (c := 16) rfl (by decide) (as := [pI (14 : Int32)]) (as' := [pI (14 : Int32)]) (st := []) eq2 (ctX16_trayWord _ _ _ _ _ _ fu q2 (14 : Int32) M _ eM3) tb_2210 tb_2207 tb_2209 ts_94 tb_8 ⟨rfl, hyX16_trayWord⟩ rfl rfl ⟨by decide, by decide⟩ (Nat.le_of_ble_eq_true rfl) dX16_arp_12 ?_
    refine g_ldc X (pc := 15) tb_2091 dX16_arp_15 ?_
    refine g_icmp_ne X (pc := 17) (tgt := 32) dX16_arp_17 (by decide) (fun hc => ?_) (fun hc => ?_)
    · have h := (if_neg hc).symm.trans h
      obtain rfl := Option.some.inj h
      exact g_return X hE dX16_arp_32
    · have h := (if_pos hc).symm.trans h
      refine g_aload_n X (pc := 20) 0 rfl rfl dX16_arp_20 ?_
      refine g_bipush X (pc := 21) (v := 18) dX16_arp_21 (by decide) ?_
      obtain ⟨q5, eq5, h⟩ := bd h
      obtain ⟨v7, M6, eM6, h⟩ := b2d h
      refine g_callV X (pc := 23) (M' := M6) (ro := some (pI v7)) (c := 16) rfl (by decide) (as := [pI (18 : Int32)]) (as' := [pI (18 : Int32)]) (st := []) eq5 (ctX16_trayHalf _ _ _ _ _ _ fu q5 (18 : Int32) M3 _ eM6) tb_2206 tb_2203 tb_2205 ts_93 tb_8 ⟨rfl, hyX16_trayHalf⟩ rfl rfl ⟨by decide, by decide⟩ (Nat.le_of_ble_eq_true rfl) dX16_arp_23 ?_
      refine g_sipush X (pc := 26) (v := 1540) dX16_arp_26 (by decide) ?_
      refine g_icmp_eq X (pc := 29) (tgt := 33) dX16_arp_29 (by decide) (fun hc => ?_) (fun hc => ?_)
      · have h := (if_pos hc).symm.trans h
        refine g_aload_n X (pc := 33) 0 rfl rfl dX16_arp_33 ?_
        refine g_bipush X (pc := 34) (v := 20) dX16_arp_34 (by decide) ?_
        obtain ⟨q8, eq8, h⟩ := bd h
        obtain ⟨v10, M9, eM9, h⟩ := b2d h
        refine g_callV X (pc := 36) (M' := M9) (ro := some (pI v10)) (c := 16) rfl (by decide) (as := [pI (20 : Int32)]) (as' := [pI (20 : Int32)]) (st := []) eq8 (ctX16_trayHalf _ _ _ _ _ _ fu q8 (20 : Int32) M6 _ eM9) tb_2206 tb_2203 tb_2205 ts_93 tb_8 ⟨rfl, hyX16_trayHalf⟩ rfl rfl ⟨by decide, by decide⟩ (Nat.le_of_ble_eq_true rfl) dX16_arp_36 ?_
        refine g_istore_n X (pc := 39) [(1, pI v10), (0, pR (some a0))] rfl (lt_n hn (by decide)) rfl dX16_arp_39 ?_
        refine g_iload_n X (pc := 40) 0 rfl rfl dX16_arp_40 ?_
        refine g_iconst X (pc := 41) (v := 1) dX16_arp_41 (by decide) ?_
        refine g_icmp_eq X (pc := 42) (tgt := 51) dX16_arp_42 (by decide) (fun hc => ?_) (fun hc => ?_)
        · have h := (if_pos hc).symm.trans h
          refine g_sub [1, 0] [(0, pR (some a0)), (1, pI v10)] rfl ?_
          exact wX16_arp_L51 X hE hn fu   a0 v10 M9 h
        · have h := (if_neg hc).symm.trans h
          refine g_iload_n X (pc := 45) 0 rfl rfl dX16_arp_45 ?_
          refine g_iconst X (pc := 46) (v := 2) dX16_arp_46 (by decide) ?_
          refine g_icmp_eq X (pc := 47) (tgt := 51) dX16_arp_47 (by decide) (fun hc => ?_) (fun hc => ?_)
          · have h := (if_pos hc).symm.trans h
            refine g_sub [1, 0] [(0, pR (some a0)), (1, pI v10)] rfl ?_
            exact wX16_arp_L51 X hE hn fu   a0 v10 M9 h
          · have h := (if_neg hc).symm.trans h
            obtain rfl := Option.some.inj h
            exact g_return X hE dX16_arp_50
      · have h := (if_neg hc).symm.trans h
        obtain rfl := Option.some.inj h
        exact g_return X hE dX16_arp_32
theorem hyX16_arp : yX16_arp.cls ≠ "java/lang/invoke/MethodHandle" ∧ yX16_arp.cls ≠ "java/lang/invoke/VarHandle" ∧ (parseMethodDescriptor yX16_arp.desc).map (fun d => d.parameters.length) = some 0 := ⟨by decide +kernel, by decide +kernel, by decide +kernel⟩
theorem ctX16_arp (l : Launch) (E : Nat → Nat) (D : va_G) (dA : Nat → ClassId) (lo : Nat) (H0 : Heap) (fu : Nat) (a0 : Nat) (M : Mm) (out : Mm) (h : fX16_arp fu a0 M = some out) : Ct l E D dA lo H0 yX16_arp cX16_arp 6 none 3 77 [pR (some a0)] M none out := by
  refine ct_of (by decide +kernel) (Nat.le_of_ble_eq_true rfl) ?_
  intro x hl he hd ha ho hh hn hin X hE
  exact wX16_arp X hE hn fu a0 M h
