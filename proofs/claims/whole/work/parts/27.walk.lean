/-! ===== walks of methods, printed by a program of ours ===== -/
/-! WebHost$Tcp.takeNew(LWebHost$Connection;)V -/
def fX9_takeNew_L161 (fu : Nat)  (a0 : Nat) (a1 : Option Nat) (s0 : Option Nat) (s1 : Int32) (M : Mm) : Option (Mm) :=
    (pF M 5 324 s0 s1).bind fun M1 =>
    (gR M1 9 576 (some a0)).bind fun v2 =>
    (gI M1 10 641 v2).bind fun v3 =>
    (pF M1 1 73 a1 v3).bind fun M4 =>
    some M4
def fX9_takeNew_L125 (fu : Nat)  (a0 : Nat) (a1 : Option Nat)  (M : Mm) : Option (Mm) :=
    (gR M 1 81 a1).bind fun v1 =>
    (gI M 1 68 a1).bind fun v2 =>
    (gI M 1 70 a1).bind fun v3 =>
    if 0 ≤ (v2 - v3) then (
    fX9_takeNew_L161 fu  a0 a1 v1 (2147483647 : Int32) M)
    else (
    (gR M 9 576 (some a0)).bind fun v4 =>
    (gI M 10 641 v4).bind fun v5 =>
    (gR M 1 81 a1).bind fun v6 =>
    (gI M 5 323 v6).bind fun v7 =>
    fX9_takeNew_L161 fu  a0 a1 v1 (v5 + v7) M)
def fX9_takeNew_L78 (fu : Nat)  (a0 : Nat) (a1 : Option Nat)  (M : Mm) : Option (Mm) :=
    (gR M 1 81 a1).bind fun v1 =>
    (pF M 5 325 v1 (0 : Int32)).bind fun M2 =>
    (gR M2 1 81 a1).bind fun v3 =>
    (pF M2 5 326 v3 (0 : Int32)).bind fun M4 =>
    (gR M4 9 579 (some a0)).bind fun v5 =>
    (gI M4 3 197 v5).bind fun v6 =>
    (pF M4 1 68 a1 v6).bind fun M7 =>
    (gI M7 1 69 a1).bind fun v8 =>
    (gI M7 1 68 a1).bind fun v9 =>
    if 0 ≤ (v8 - v9) then (
    fX9_takeNew_L125 fu  a0 a1 M7)
    else (
    (gI M7 1 68 a1).bind fun v10 =>
    (pF M7 1 69 a1 v10).bind fun M11 =>
    fX9_takeNew_L125 fu  a0 a1 M11)
def fX9_takeNew (fu : Nat)  (a0 : Nat) (a1 : Option Nat)  (M : Mm) : Option (Mm) :=
    (gR M 9 579 (some a0)).bind fun v1 =>
    (gI M 3 197 v1).bind fun v2 =>
    (gI M 1 68 a1).bind fun v3 =>
    (gR M 9 576 (some a0)).bind fun v4 =>
    (gR M 10 640 v4).bind fun v5 =>
    (gA M 101 v5 (6 : Int32)).bind fun v6 =>
    (pA M 101 v5 (6 : Int32) (v6 + (1 : Int32))).bind fun M7 =>
    (gR M7 9 576 (some a0)).bind fun v8 =>
    (gR M7 10 640 v8).bind fun v9 =>
    (gA M7 101 v9 (7 : Int32)).bind fun v10 =>
    (pA M7 101 v9 (7 : Int32) (v10 + (v2 - v3))).bind fun M11 =>
    (gR M11 1 81 a1).bind fun v12 =>
    (gR M11 9 579 (some a0)).bind fun v13 =>
    (gI M11 3 197 v13).bind fun v14 =>
    (gR M11 9 576 (some a0)).bind fun v15 =>
    (gI M11 10 641 v15).bind fun v16 =>
    (rc M11 5 v12).bind fun q17 =>
    (fX5_endTiming fu q17 v14 v16 M11).bind fun M18 =>
    (gI M18 1 64 a1).bind fun v19 =>
    if v19 = (1 : Int32) then (
    fX9_takeNew_L78 fu  a0 a1 M18)
    else (
    (gR M18 1 81 a1).bind fun v20 =>
    (rc M18 5 v20).bind fun q21 =>
    (fX5_grow fu q21 (v2 - v3) M18).bind fun M22 =>
    fX9_takeNew_L78 fu  a0 a1 M22)
theorem dX9_takeNew_0 : decode cX9_takeNew 0 = .ok (.aload_n 0, 1) := by decide +kernel
theorem dX9_takeNew_1 : decode cX9_takeNew 1 = .ok (.getfield 23, 3) := by decide +kernel
theorem dX9_takeNew_4 : decode cX9_takeNew 4 = .ok (.getfield 181, 3) := by decide +kernel
theorem dX9_takeNew_7 : decode cX9_takeNew 7 = .ok (.aload_n 1, 1) := by decide +kernel
theorem dX9_takeNew_8 : decode cX9_takeNew 8 = .ok (.getfield 194, 3) := by decide +kernel
theorem dX9_takeNew_11 : decode cX9_takeNew 11 = .ok (.isub, 1) := by decide +kernel
theorem dX9_takeNew_12 : decode cX9_takeNew 12 = .ok (.istore_n 2, 1) := by decide +kernel
theorem dX9_takeNew_13 : decode cX9_takeNew 13 = .ok (.aload_n 0, 1) := by decide +kernel
theorem dX9_takeNew_14 : decode cX9_takeNew 14 = .ok (.getfield 9, 3) := by decide +kernel
theorem dX9_takeNew_17 : decode cX9_takeNew 17 = .ok (.getfield 140, 3) := by decide +kernel
theorem dX9_takeNew_20 : decode cX9_takeNew 20 = .ok (.bipush 6, 2) := by decide +kernel
theorem dX9_takeNew_22 : decode cX9_takeNew 22 = .ok (.dup2, 1) := by decide +kernel
theorem dX9_takeNew_23 : decode cX9_takeNew 23 = .ok (.iaload, 1) := by decide +kernel
theorem dX9_takeNew_24 : decode cX9_takeNew 24 = .ok (.iconst 1, 1) := by decide +kernel
theorem dX9_takeNew_25 : decode cX9_takeNew 25 = .ok (.iadd, 1) := by decide +kernel
theorem dX9_takeNew_26 : decode cX9_takeNew 26 = .ok (.iastore, 1) := by decide +kernel
theorem dX9_takeNew_27 : decode cX9_takeNew 27 = .ok (.aload_n 0, 1) := by decide +kernel
theorem dX9_takeNew_28 : decode cX9_takeNew 28 = .ok (.getfield 9, 3) := by decide +kernel
theorem dX9_takeNew_31 : decode cX9_takeNew 31 = .ok (.getfield 140, 3) := by decide +kernel
theorem dX9_takeNew_34 : decode cX9_takeNew 34 = .ok (.bipush 7, 2) := by decide +kernel
theorem dX9_takeNew_36 : decode cX9_takeNew 36 = .ok (.dup2, 1) := by decide +kernel
theorem dX9_takeNew_37 : decode cX9_takeNew 37 = .ok (.iaload, 1) := by decide +kernel
theorem dX9_takeNew_38 : decode cX9_takeNew 38 = .ok (.iload_n 2, 1) := by decide +kernel
theorem dX9_takeNew_39 : decode cX9_takeNew 39 = .ok (.iadd, 1) := by decide +kernel
theorem dX9_takeNew_40 : decode cX9_takeNew 40 = .ok (.iastore, 1) := by decide +kernel
theorem dX9_takeNew_41 : decode cX9_takeNew 41 = .ok (.aload_n 1, 1) := by decide +kernel
theorem dX9_takeNew_42 : decode cX9_takeNew 42 = .ok (.getfield 49, 3) := by decide +kernel
theorem dX9_takeNew_45 : decode cX9_takeNew 45 = .ok (.aload_n 0, 1) := by decide +kernel
theorem dX9_takeNew_46 : decode cX9_takeNew 46 = .ok (.getfield 23, 3) := by decide +kernel
theorem dX9_takeNew_49 : decode cX9_takeNew 49 = .ok (.getfield 181, 3) := by decide +kernel
theorem dX9_takeNew_52 : decode cX9_takeNew 52 = .ok (.aload_n 0, 1) := by decide +kernel
theorem dX9_takeNew_53 : decode cX9_takeNew 53 = .ok (.getfield 9, 3) := by decide +kernel
theorem dX9_takeNew_56 : decode cX9_takeNew 56 = .ok (.getfield 147, 3) := by decide +kernel
theorem dX9_takeNew_59 : decode cX9_takeNew 59 = .ok (.invokevirtual 231, 3) := by decide +kernel
theorem dX9_takeNew_62 : decode cX9_takeNew 62 = .ok (.aload_n 1, 1) := by decide +kernel
theorem dX9_takeNew_63 : decode cX9_takeNew 63 = .ok (.getfield 36, 3) := by decide +kernel
theorem dX9_takeNew_66 : decode cX9_takeNew 66 = .ok (.iconst 1, 1) := by decide +kernel
theorem dX9_takeNew_67 : decode cX9_takeNew 67 = .ok (.if_icmp .eq 11, 3) := by decide +kernel
theorem dX9_takeNew_70 : decode cX9_takeNew 70 = .ok (.aload_n 1, 1) := by decide +kernel
theorem dX9_takeNew_71 : decode cX9_takeNew 71 = .ok (.getfield 49, 3) := by decide +kernel
theorem dX9_takeNew_74 : decode cX9_takeNew 74 = .ok (.iload_n 2, 1) := by decide +kernel
theorem dX9_takeNew_75 : decode cX9_takeNew 75 = .ok (.invokevirtual 234, 3) := by decide +kernel
theorem dX9_takeNew_78 : decode cX9_takeNew 78 = .ok (.aload_n 1, 1) := by decide +kernel
theorem dX9_takeNew_79 : decode cX9_takeNew 79 = .ok (.getfield 49, 3) := by decide +kernel
theorem dX9_takeNew_82 : decode cX9_takeNew 82 = .ok (.iconst 0, 1) := by decide +kernel
theorem dX9_takeNew_83 : decode cX9_takeNew 83 = .ok (.putfield 215, 3) := by decide +kernel
theorem dX9_takeNew_86 : decode cX9_takeNew 86 = .ok (.aload_n 1, 1) := by decide +kernel
theorem dX9_takeNew_87 : decode cX9_takeNew 87 = .ok (.getfield 49, 3) := by decide +kernel
theorem dX9_takeNew_90 : decode cX9_takeNew 90 = .ok (.iconst 0, 1) := by decide +kernel
theorem dX9_takeNew_91 : decode cX9_takeNew 91 = .ok (.putfield 237, 3) := by decide +kernel
theorem dX9_takeNew_94 : decode cX9_takeNew 94 = .ok (.aload_n 1, 1) := by decide +kernel
theorem dX9_takeNew_95 : decode cX9_takeNew 95 = .ok (.aload_n 0, 1) := by decide +kernel
theorem dX9_takeNew_96 : decode cX9_takeNew 96 = .ok (.getfield 23, 3) := by decide +kernel
theorem dX9_takeNew_99 : decode cX9_takeNew 99 = .ok (.getfield 181, 3) := by decide +kernel
theorem dX9_takeNew_102 : decode cX9_takeNew 102 = .ok (.putfield 194, 3) := by decide +kernel
theorem dX9_takeNew_105 : decode cX9_takeNew 105 = .ok (.aload_n 1, 1) := by decide +kernel
theorem dX9_takeNew_106 : decode cX9_takeNew 106 = .ok (.getfield 115, 3) := by decide +kernel
theorem dX9_takeNew_109 : decode cX9_takeNew 109 = .ok (.aload_n 1, 1) := by decide +kernel
theorem dX9_takeNew_110 : decode cX9_takeNew 110 = .ok (.getfield 194, 3) := by decide +kernel
theorem dX9_takeNew_113 : decode cX9_takeNew 113 = .ok (.isub, 1) := by decide +kernel
theorem dX9_takeNew_114 : decode cX9_takeNew 114 = .ok (.ifCond .ge 11, 3) := by decide +kernel
theorem dX9_takeNew_117 : decode cX9_takeNew 117 = .ok (.aload_n 1, 1) := by decide +kernel
theorem dX9_takeNew_118 : decode cX9_takeNew 118 = .ok (.aload_n 1, 1) := by decide +kernel
theorem dX9_takeNew_119 : decode cX9_takeNew 119 = .ok (.getfield 194, 3) := by decide +kernel
theorem dX9_takeNew_122 : decode cX9_takeNew 122 = .ok (.putfield 115, 3) := by decide +kernel
theorem dX9_takeNew_125 : decode cX9_takeNew 125 = .ok (.aload_n 1, 1) := by decide +kernel
theorem dX9_takeNew_126 : decode cX9_takeNew 126 = .ok (.getfield 49, 3) := by decide +kernel
theorem dX9_takeNew_129 : decode cX9_takeNew 129 = .ok (.aload_n 1, 1) := by decide +kernel
theorem dX9_takeNew_130 : decode cX9_takeNew 130 = .ok (.getfield 194, 3) := by decide +kernel
theorem dX9_takeNew_133 : decode cX9_takeNew 133 = .ok (.aload_n 1, 1) := by decide +kernel
theorem dX9_takeNew_134 : decode cX9_takeNew 134 = .ok (.getfield 191, 3) := by decide +kernel
theorem dX9_takeNew_137 : decode cX9_takeNew 137 = .ok (.isub, 1) := by decide +kernel
theorem dX9_takeNew_138 : decode cX9_takeNew 138 = .ok (.ifCond .ge 21, 3) := by decide +kernel
theorem dX9_takeNew_141 : decode cX9_takeNew 141 = .ok (.aload_n 0, 1) := by decide +kernel
theorem dX9_takeNew_142 : decode cX9_takeNew 142 = .ok (.getfield 9, 3) := by decide +kernel
theorem dX9_takeNew_145 : decode cX9_takeNew 145 = .ok (.getfield 147, 3) := by decide +kernel
theorem dX9_takeNew_148 : decode cX9_takeNew 148 = .ok (.aload_n 1, 1) := by decide +kernel
theorem dX9_takeNew_149 : decode cX9_takeNew 149 = .ok (.getfield 49, 3) := by decide +kernel
theorem dX9_takeNew_152 : decode cX9_takeNew 152 = .ok (.getfield 161, 3) := by decide +kernel
theorem dX9_takeNew_155 : decode cX9_takeNew 155 = .ok (.iadd, 1) := by decide +kernel
theorem dX9_takeNew_156 : decode cX9_takeNew 156 = .ok (.goto 5, 3) := by decide +kernel
theorem dX9_takeNew_159 : decode cX9_takeNew 159 = .ok (.ldc 48, 2) := by decide +kernel
theorem dX9_takeNew_161 : decode cX9_takeNew 161 = .ok (.putfield 53, 3) := by decide +kernel
theorem dX9_takeNew_164 : decode cX9_takeNew 164 = .ok (.aload_n 1, 1) := by decide +kernel
theorem dX9_takeNew_165 : decode cX9_takeNew 165 = .ok (.aload_n 0, 1) := by decide +kernel
theorem dX9_takeNew_166 : decode cX9_takeNew 166 = .ok (.getfield 9, 3) := by decide +kernel
theorem dX9_takeNew_169 : decode cX9_takeNew 169 = .ok (.getfield 147, 3) := by decide +kernel
theorem dX9_takeNew_172 : decode cX9_takeNew 172 = .ok (.putfield 172, 3) := by decide +kernel
theorem dX9_takeNew_175 : decode cX9_takeNew 175 = .ok (.return_, 1) := by decide +kernel
theorem wX9_takeNew_L161 {x : GX} {n0 sl0 : Nat} (X : Cx x cX9_takeNew RX9 none n0 sl0 2 40) {out : Mm} (hE : Ends x n0 sl0 none out) (hn : xn x = 3) (fu : Nat)   (a0 : Nat) (a1 : Option Nat) (s0 : Option Nat) (s1 : Int32) (M : Mm) (h : fX9_takeNew_L161 fu  a0 a1 s0 s1 M = some out) : Gw x M 161 [(0, pR (some a0)), (1, pR a1)] [pI s1, pR s0] := by
  unfold fX9_takeNew_L161 at h
  obtain ⟨M1, eM1, h⟩ := bd h
  refine g_putI X (pc := 161) fk_5_4 rfl rfl rfl eM1 tb_912 (Or.inl rfl) dX9_takeNew_161 ?_
  refine g_aload_n X (pc := 164) 1 rfl rfl dX9_takeNew_164 ?_
  refine g_aload_n X (pc := 165) 0 rfl rfl dX9_takeNew_165 ?_
  obtain ⟨v2, ev2, h⟩ := bd h
  refine g_getR X (pc := 166) fk_9_0 rfl rfl ev2 tb_234 dX9_takeNew_166 ?_
  obtain ⟨v3, ev3, h⟩ := bd h
  refine g_getI X (pc := 169) fk_10_1 rfl rfl ev3 tb_71 dX9_takeNew_169 ?_
  obtain ⟨M4, eM4, h⟩ := bd h
  refine g_putI X (pc := 172) fk_1_9 rfl rfl rfl eM4 tb_977 (Or.inl rfl) dX9_takeNew_172 ?_
  obtain rfl := Option.some.inj h
  exact g_return X hE dX9_takeNew_175
theorem wX9_takeNew_L125 {x : GX} {n0 sl0 : Nat} (X : Cx x cX9_takeNew RX9 none n0 sl0 2 40) {out : Mm} (hE : Ends x n0 sl0 none out) (hn : xn x = 3) (fu : Nat)   (a0 : Nat) (a1 : Option Nat)  (M : Mm) (h : fX9_takeNew_L125 fu  a0 a1 M = some out) : Gw x M 125 [(0, pR (some a0)), (1, pR a1)] [] := by
  unfold fX9_takeNew_L125 at h
  refine g_aload_n X (pc := 125) 1 rfl rfl dX9_takeNew_125 ?_
  obtain ⟨v1, ev1, h⟩ := bd h
  refine g_getR X (pc := 126) fk_1_17 rfl rfl ev1 tb_997 dX9_takeNew_126 ?_
  refine g_aload_n X (pc := 129) 1 rfl rfl dX9_takeNew_129 ?_
  obtain ⟨v2, ev2, h⟩ := bd h
  refine g_getI X (pc := 130) fk_1_4 rfl rfl ev2 tb_968 dX9_takeNew_130 ?_
  refine g_aload_n X (pc := 133) 1 rfl rfl dX9_takeNew_133 ?_
  obtain ⟨v3, ev3, h⟩ := bd h
  refine g_getI X (pc := 134) fk_1_6 rfl rfl ev3 tb_973 dX9_takeNew_134 ?_
  refine g_isub X (pc := 137) dX9_takeNew_137 ?_
  refine g_if_ge X (pc := 138) (tgt := 159) dX9_takeNew_138 (by decide) (fun hc => ?_) (fun hc => ?_)
  · have h := (if_pos hc).symm.trans h
    refine g_ldc X (pc := 159) tb_487 dX9_takeNew_159 ?_
    exact wX9_takeNew_L161 X hE hn fu   a0 a1 v1 (2147483647 : Int32) M h
  · have h := (if_neg hc).symm.trans h
    refine g_aload_n X (pc := 141) 0 rfl rfl dX9_takeNew_141 ?_
    obtain ⟨v4, ev4, h⟩ := bd h
    refine g_getR X (pc := 142) fk_9_0 rfl rfl ev4 tb_234 dX9_takeNew_142 ?_
    obtain ⟨v5, ev5, h⟩ := bd h
    refine g_getI X (pc := 145) fk_10_1 rfl rfl ev5 tb_71 dX9_takeNew_145 ?_
    refine g_aload_n X (pc := 148) 1 rfl rfl dX9_takeNew_148 ?_
    obtain ⟨v6, ev6, h⟩ := bd h
    refine g_getR X (pc := 149) fk_1_17 rfl rfl ev6 tb_997 dX9_takeNew_149 ?_
    obtain ⟨v7, ev7, h⟩ := bd h
    refine g_getI X (pc := 152) fk_5_3 rfl rfl ev7 tb_908 dX9_takeNew_152 ?_
    refine g_iadd X (pc := 155) dX9_takeNew_155 ?_
    refine g_goto X (pc := 156) (tgt := 161) dX9_takeNew_156 (by decide) ?_
    exact wX9_takeNew_L161 X hE hn fu   a0 a1 v1 (v5 + v7) M h
theorem wX9_takeNew_L78 {x : GX} {n0 sl0 : Nat} (X : Cx x cX9_takeNew RX9 none n0 sl0 2 40) {out : Mm} (hE : Ends x n0 sl0 none out) (hn : xn x = 3) (fu : Nat)   (a0 : Nat) (a1 : Option Nat)  (M : Mm) (h : fX9_takeNew_L78 fu  a0 a1 M = some out) : Gw x M 78 [(0, pR (some a0)), (1, pR a1)] [] := by
  unfold fX9_takeNew_L78 at h
  refine g_aload_n X (pc := 78) 1 rfl rfl dX9_takeNew_78 ?_
  obtain ⟨v1, ev1, h⟩ := bd h
  refine g_getR X (pc := 79) fk_1_17 rfl rfl ev1 tb_997 dX9_takeNew_79 ?_
  refine g_iconst X (pc := 82) (v := 0) dX9_takeNew_82 (by decide) ?_
  obtain ⟨M2, eM2, h⟩ := bd h
  refine g_putI X (pc := 83) fk_5_5 rfl rfl rfl eM2 tb_915 (Or.inl rfl) dX9_takeNew_83 ?_
  refine g_aload_n X (pc := 86) 1 rfl rfl dX9_takeNew_86 ?_
  obtain ⟨v3, ev3, h⟩ := bd h
  refine g_getR X (pc := 87) fk_1_17 rfl rfl ev3 tb_997 dX9_takeNew_87 ?_
  refine g_iconst X (pc := 90) (v := 0) dX9_takeNew_90 (by decide) ?_
  obtain ⟨M4, eM4, h⟩ := bd h
  refine g_putI X (pc := 91) fk_5_6 rfl rfl rfl eM4 tb_918 (Or.inl rfl) dX9_takeNew_91 ?_
  refine g_aload_n X (pc := 94) 1 rfl rfl dX9_takeNew_94 ?_
  refine g_aload_n X (pc := 95) 0 rfl rfl dX9_takeNew_95 ?_
  obtain ⟨v5, ev5, h⟩ := bd h
  refine g_getR X (pc := 96) fk_9_3 rfl rfl ev5 tb_237 dX9_takeNew_96 ?_
  obtain ⟨v6, ev6, h⟩ := bd h
  refine g_getI X (pc := 99) fk_3_5 rfl rfl ev6 tb_173 dX9_takeNew_99 ?_
  obtain ⟨M7, eM7, h⟩ := bd h
  refine g_putI X (pc := 102) fk_1_4 rfl rfl rfl eM7 tb_968 (Or.inl rfl) dX9_takeNew_102 ?_
  refine g_aload_n X (pc := 105) 1 rfl rfl dX9_takeNew_105 ?_
  obtain ⟨v8, ev8, h⟩ := bd h
  refine g_getI X (pc := 106) fk_1_5 rfl rfl ev8 tb_970 dX9_takeNew_106 ?_
  refine g_aload_n X (pc := 109) 1 rfl rfl dX9_takeNew_109 ?_
  obtain ⟨v9, ev9, h⟩ := bd h
  refine g_getI X (pc := 110) fk_1_4 rfl rfl ev9 tb_968 dX9_takeNew_110 ?_
  refine g_isub X (pc := 113) dX9_takeNew_113 ?_
  refine g_if_ge X (pc := 114) (tgt := 125) dX9_takeNew_114 (by decide) (fun hc => ?_) (fun hc => ?_)
  · have h := (if_pos hc).symm.trans h
    exact wX9_takeNew_L125 X hE hn fu   a0 a1 M7 h
  · have h := (if_neg hc).symm.trans h
    refine g_aload_n X (pc := 117) 1 rfl rfl dX9_takeNew_117 ?_
    refine g_aload_n X (pc := 118) 1 rfl rfl dX9_takeNew_118 ?_
    obtain ⟨v10, ev10, h⟩ := bd h
    refine g_getI X (pc := 119) fk_1_4 rfl rfl ev10 tb_968 dX9_takeNew_119 ?_
    obtain ⟨M11, eM11, h⟩ := bd h
    refine g_putI X (pc := 122) fk_1_5 rfl rfl rfl eM11 tb_970 (Or.inl rfl) dX9_takeNew_122 ?_
    exact wX9_takeNew_L125 X hE hn fu   a0 a1 M11 h
theorem wX9_takeNew {x : GX} {n0 sl0 : Nat} (X : Cx x cX9_takeNew RX9 none n0 sl0 2 40) {out : Mm} (hE : Ends x n0 sl0 none out) (hn : xn x = 3) (fu : Nat)   (a0 : Nat) (a1 : Option Nat)  (M : Mm) (h : fX9_takeNew fu  a0 a1 M = some out) : Gw x M 0 [(0, pR (some a0)), (1, pR a1)] [] := by
  unfold fX9_takeNew at h
  refine g_aload_n X (pc := 0) 0 rfl rfl dX9_takeNew_0 ?_
  obtain ⟨v1, ev1, h⟩ := bd h
  refine g_getR X (pc := 1) fk_9_3 rfl rfl ev1 tb_237 dX9_takeNew_1 ?_
  obtain ⟨v2, ev2, h⟩ := bd h
  refine g_getI X (pc := 4) fk_3_5 rfl rfl ev2 tb_173 dX9_takeNew_4 ?_
  refine g_aload_n X (pc := 7) 1 rfl rfl dX9_takeNew_7 ?_
  obtain ⟨v3, ev3, h⟩ := bd h
  refine g_getI X (pc := 8) fk_1_4 rfl rfl ev3 tb_968 dX9_takeNew_8 ?_
  refine g_isub X (pc := 11) dX9_takeNew_11 ?_
  refine g_istore_n X (pc := 12) [(2, pI (v2 - v3)), (0, pR (some a0)), (1, pR a1)] rfl (lt_n hn (by decide)) rfl dX9_takeNew_12 ?_
  refine g_aload_n X (pc := 13) 1 rfl rfl dX9_takeNew_13 ?_
  obtain ⟨v4, ev4, h⟩ := bd h
  refine g_getR X (pc := 14) fk_9_0 rfl rfl ev4 tb_234 dX9_takeNew_14 ?_
  obtain ⟨v5, ev5, h⟩ := bd h
  refine g_getR X (pc := 17) fk_10_0 rfl rfl ev5 tb_65 dX9_takeNew_17 ?_
  refine g_bipush X (pc := 20) (v := 6) dX9_takeNew_20 (by decide) ?_
  refine g_dup2 X (pc := 22) rfl rfl dX9_takeNew_22 ?_
  obtain ⟨v6, ev6, h⟩ := bd h
  refine g_iaload X (pc := 23) ev6 dX9_takeNew_23 ?_
  refine g_iconst X (pc := 24) (v := 1) dX9_takeNew_24 (by decide) ?_
  refine g_iadd X (pc := 25) dX9_takeNew_25 ?_
  obtain ⟨M7, eM7, h⟩ := bd h
  refine g_iastore X (pc := 26) eM7 dX9_takeNew_26 ?_
  refine g_aload_n X (pc := 27) 1 rfl rfl dX9_takeNew_27 ?_
  obtain ⟨v8, ev8, h⟩ := bd h
  refine g_getR X (pc := 28) fk_9_0 rfl rfl ev8 tb_234 dX9_takeNew_28 ?_
  obtain ⟨v9, ev9, h⟩ := bd h
  refine g_getR X (pc := 31) fk_10_0 rfl rfl ev9 tb_65 dX9_takeNew_31 ?_
  refine g_bipush X (pc := 34) (v := 7) dX9_takeNew_34 (by decide) ?_
  refine g_dup2 X (pc := 36) rfl rfl dX9_takeNew_36 ?_
  obtain ⟨v10, ev10, h⟩ := bd h
  refine g_iaload X (pc := 37) ev10 dX9_takeNew_37 ?_
  refine g_iload_n X (pc := 38) 0 rfl rfl dX9_takeNew_38 ?_
  refine g_iadd X (pc := 39) dX9_takeNew_39 ?_
  obtain ⟨M11, eM11, h⟩ := bd h
  refine g_iastore X (pc := 40) eM11 dX9_takeNew_40 ?_
  refine g_aload_n X (pc := 41) 2 rfl rfl dX9_takeNew_41 ?_
  obtain ⟨v12, ev12, h⟩ := bd h
  refine g_getR X (pc := 42) fk_1_17 rfl rfl ev12 tb_997 dX9_takeNew_42 ?_
  refine g_aload_n X (pc := 45) 1 rfl rfl dX9_takeNew_45 ?_
  obtain ⟨v13, ev13, h⟩ := bd h
  refine g_getR X (pc := 46) fk_9_3 rfl rfl ev13 tb_237 dX9_takeNew_46 ?_
  obtain ⟨v14, ev14, h⟩ := bd h
  refine g_getI X (pc := 49) fk_3_5 rfl rfl ev14 tb_173 dX9_takeNew_49 ?_
  refine g_aload_n X (pc := 52) 1 rfl rfl dX9_takeNew_52 ?_
  obtain ⟨v15, ev15, h⟩ := bd h
  refine g_getR X (pc := 53) fk_9_0 rfl rfl ev15 tb_234 dX9_takeNew_53 ?_
  obtain ⟨v16, ev16, h⟩ := bd h
  refine g_getI X (pc := 56) fk_10_1 rfl rfl ev16 tb_71 dX9_takeNew_56 ?_
  obtain ⟨q17, eq17, h⟩ := bd h
  obtain ⟨M18, eM18, h⟩ := bd h
  refine g_callV X (pc := 59) (M' := M18) (ro := none) (c := 5) rfl (by decide) (as := [pI v14, pI v16]) (as' := [pI v16, pI v14]) (st := []) eq17 (ctX5_endTiming _ _ _ _ _ _ fu q17 v14 v16 M11 _ eM18) tb_1098 tb_1095 tb_1096 tb_1097 tb_20 ⟨rfl, hyX5_endTiming⟩ rfl rfl ⟨by decide, by decide⟩ (Nat.le_of_ble_eq_true rfl) dX9_takeNew_59 ?_
  refine g_aload_n X (pc := 62) 2 rfl rfl dX9_takeNew_62 ?_
  obtain ⟨v19, ev19, h⟩ := bd h
  refine g_getI X (pc := 63) fk_1_0 rfl rfl ev19 tb_959 dX9_takeNew_63 ?_
  refine g_iconst X (pc := 66) (v := 1) dX9_takeNew_66 (by decide) ?_
  refine g_icmp_eq X (pc := 67) (tgt := 78) dX9_takeNew_67 (by decide) (fun hc => ?_) (fun hc => ?_)
  · have h := (if_pos hc).symm.trans h
    refine g_sub [1, 2] [(0, pR (some a0)), (1, pR a1)] rfl ?_
    exact wX9_takeNew_L78 X hE hn fu   a0 a1 M18 h
  · have h := (if_neg hc).symm.trans h
    refine g_aload_n X (pc := 70) 2 rfl rfl dX9_takeNew_70 ?_
    obtain ⟨v20, ev20, h⟩ := bd h
    refine g_getR X (pc := 71) fk_1_17 rfl rfl ev20 tb_997 dX9_takeNew_71 ?_
    refine g_iload_n X (pc := 74) 0 rfl rfl dX9_takeNew_74 ?_
    obtain ⟨q21, eq21, h⟩ := bd h
    obtain ⟨M22, eM22, h⟩ := bd h
    refine g_callV X (pc := 75) (M' := M22) (ro := none) (c := 5) rfl (by decide) (as := [pI (v2 - v3)]) (as' := [pI (v2 - v3)]) (st := []) eq21 (ctX5_grow _ _ _ _ _ _ fu q21 (v2 - v3) M18 _ eM22) tb_1105 tb_1102 tb_1103 tb_1104 tb_20 ⟨rfl, hyX5_grow⟩ rfl rfl ⟨by decide, by decide⟩ (Nat.le_of_ble_eq_true rfl) dX9_takeNew_75 ?_
    refine g_sub [1, 2] [(0, pR (some a0)), (1, pR a1)] rfl ?_
    exact wX9_takeNew_L78 X hE hn fu   a0 a1 M22 h
theorem hyX9_takeNew : yX9_takeNew.cls ≠ "java/lang/invoke/MethodHandle" ∧ yX9_takeNew.cls ≠ "java/lang/invoke/VarHandle" ∧ (parseMethodDescriptor yX9_takeNew.desc).map (fun d => d.parameters.length) = some 1 := ⟨by decide +kernel, by decide +kernel, by decide +kernel⟩
theorem ctX9_takeNew (l : Launch) (E : Nat → Nat) (D : va_G) (dA : Nat → ClassId) (lo : Nat) (H0 : Heap) (fu : Nat) (a0 : Nat) (a1 : Option Nat) (M : Mm) (out : Mm) (h : fX9_takeNew fu a0 a1 M = some out) : Ct l E D dA lo H0 yX9_takeNew cX9_takeNew 3 none 2 40 [pR (some a0), pR a1] M none out := by
  refine ct_of (by decide +kernel) (Nat.le_of_ble_eq_true rfl) ?_
  intro x hl he hd ha ho hh hn hin X hE
  exact wX9_takeNew X hE hn fu a0 a1 M h
/-! WebHost$Tcp.isDuplicate(LWebHost$Connection;)Z -/
def fX9_isDuplicate (fu : Nat)  (a0 : Nat) (a1 : Option Nat)  (M : Mm) : Option (Int32 × Mm) :=
    (gR M 9 579 (some a0)).bind fun v1 =>
    (gI M 3 197 v1).bind fun v2 =>
    (gI M 1 68 a1).bind fun v3 =>
    if v2 = v3 then (
    (gR M 9 579 (some a0)).bind fun v4 =>
    (rc M 3 v4).bind fun q5 =>
    b2 (fX3_span fu q5  M) fun v7 M6 =>
    if v7 = 0 then (
    (gR M6 9 579 (some a0)).bind fun v8 =>
    (gI M6 3 199 v8).bind fun v9 =>
    (gI M6 1 71 a1).bind fun v10 =>
    if v9 = v10 then (
    (gI M6 1 68 a1).bind fun v11 =>
    (gI M6 1 70 a1).bind fun v12 =>
    if 0 ≤ (v11 - v12) then (
    rN .boolean (0 : Int32) M6)
    else (
    rN .boolean (1 : Int32) M6))
    else (
    rN .boolean (0 : Int32) M6))
    else (
    rN .boolean (0 : Int32) M6))
    else (
    rN .boolean (0 : Int32) M)
theorem dX9_isDuplicate_0 : decode cX9_isDuplicate 0 = .ok (.aload_n 0, 1) := by decide +kernel
theorem dX9_isDuplicate_1 : decode cX9_isDuplicate 1 = .ok (.getfield 23, 3) := by decide +kernel
theorem dX9_isDuplicate_4 : decode cX9_isDuplicate 4 = .ok (.getfield 181, 3) := by decide +kernel
theorem dX9_isDuplicate_7 : decode cX9_isDuplicate 7 = .ok (.aload_n 1, 1) := by decide +kernel
theorem dX9_isDuplicate_8 : decode cX9_isDuplicate 8 = .ok (.getfield 194, 3) := by decide +kernel
theorem dX9_isDuplicate_11 : decode cX9_isDuplicate 11 = .ok (.if_icmp .ne 43, 3) := by decide +kernel
theorem dX9_isDuplicate_14 : decode cX9_isDuplicate 14 = .ok (.aload_n 0, 1) := by decide +kernel
theorem dX9_isDuplicate_15 : decode cX9_isDuplicate 15 = .ok (.getfield 23, 3) := by decide +kernel
theorem dX9_isDuplicate_18 : decode cX9_isDuplicate 18 = .ok (.invokevirtual 227, 3) := by decide +kernel
theorem dX9_isDuplicate_21 : decode cX9_isDuplicate 21 = .ok (.ifCond .ne 33, 3) := by decide +kernel
theorem dX9_isDuplicate_24 : decode cX9_isDuplicate 24 = .ok (.aload_n 0, 1) := by decide +kernel
theorem dX9_isDuplicate_25 : decode cX9_isDuplicate 25 = .ok (.getfield 23, 3) := by decide +kernel
theorem dX9_isDuplicate_28 : decode cX9_isDuplicate 28 = .ok (.getfield 230, 3) := by decide +kernel
theorem dX9_isDuplicate_31 : decode cX9_isDuplicate 31 = .ok (.aload_n 1, 1) := by decide +kernel
theorem dX9_isDuplicate_32 : decode cX9_isDuplicate 32 = .ok (.getfield 212, 3) := by decide +kernel
theorem dX9_isDuplicate_35 : decode cX9_isDuplicate 35 = .ok (.if_icmp .ne 19, 3) := by decide +kernel
theorem dX9_isDuplicate_38 : decode cX9_isDuplicate 38 = .ok (.aload_n 1, 1) := by decide +kernel
theorem dX9_isDuplicate_39 : decode cX9_isDuplicate 39 = .ok (.getfield 194, 3) := by decide +kernel
theorem dX9_isDuplicate_42 : decode cX9_isDuplicate 42 = .ok (.aload_n 1, 1) := by decide +kernel
theorem dX9_isDuplicate_43 : decode cX9_isDuplicate 43 = .ok (.getfield 191, 3) := by decide +kernel
theorem dX9_isDuplicate_46 : decode cX9_isDuplicate 46 = .ok (.isub, 1) := by decide +kernel
theorem dX9_isDuplicate_47 : decode cX9_isDuplicate 47 = .ok (.ifCond .ge 7, 3) := by decide +kernel
theorem dX9_isDuplicate_50 : decode cX9_isDuplicate 50 = .ok (.iconst 1, 1) := by decide +kernel
theorem dX9_isDuplicate_51 : decode cX9_isDuplicate 51 = .ok (.goto 4, 3) := by decide +kernel
theorem dX9_isDuplicate_54 : decode cX9_isDuplicate 54 = .ok (.iconst 0, 1) := by decide +kernel
theorem dX9_isDuplicate_55 : decode cX9_isDuplicate 55 = .ok (.ireturn, 1) := by decide +kernel
theorem wX9_isDuplicate {x : GX} {n0 sl0 : Nat} (X : Cx x cX9_isDuplicate RX9 (some .boolean) n0 sl0 2 41) {out : Int32 × Mm} (hE : Ends x n0 sl0 (some (pI out.1)) out.2) (hn : xn x = 2) (fu : Nat)   (a0 : Nat) (a1 : Option Nat)  (M : Mm) (h : fX9_isDuplicate fu  a0 a1 M = some out) : Gw x M 0 [(0, pR (some a0)), (1, pR a1)] [] := by
  unfold fX9_isDuplicate at h
  refine g_aload_n X (pc := 0) 0 rfl rfl dX9_isDuplicate_0 ?_
  obtain ⟨v1, ev1, h⟩ := bd h
  refine g_getR X (pc := 1) fk_9_3 rfl rfl ev1 tb_237 dX9_isDuplicate_1 ?_
  obtain ⟨v2, ev2, h⟩ := bd h
  refine g_getI X (pc := 4) fk_3_5 rfl rfl ev2 tb_173 dX9_isDuplicate_4 ?_
  refine g_aload_n X (pc := 7) 1 rfl rfl dX9_isDuplicate_7 ?_
  obtain ⟨v3, ev3, h⟩ := bd h
  refine g_getI X (pc := 8) fk_1_4 rfl rfl ev3 tb_968 dX9_isDuplicate_8 ?_
  refine g_icmp_ne X (pc := 11) (tgt := 54) dX9_isDuplicate_11 (by decide) (fun hc => ?_) (fun hc => ?_)
  · have h := (if_neg hc).symm.trans h
    refine g_iconst X (pc := 54) (v := 0) dX9_isDuplicate_54 (by decide) ?_
    obtain ⟨hz, rfl⟩ := rN_some h
    exact g_nreturn X rfl hz hE dX9_isDuplicate_55
  · have h := (if_pos hc).symm.trans h
    refine g_aload_n X (pc := 14) 0 rfl rfl dX9_isDuplicate_14 ?_
    obtain ⟨v4, ev4, h⟩ := bd h
    refine g_getR X (pc := 15) fk_9_3 rfl rfl ev4 tb_237 dX9_isDuplicate_15 ?_
    obtain ⟨q5, eq5, h⟩ := bd h
    obtain ⟨v7, M6, eM6, h⟩ := b2d h
    refine g_callV X (pc := 18) (M' := M6) (ro := some (pI v7)) (c := 3) rfl (by decide) (as := []) (as' := []) (st := []) eq5 (ctX3_span _ _ _ _ _ _ fu q5  M _ eM6) tb_843 tb_840 tb_841 tb_842 tb_5 ⟨rfl, hyX3_span⟩ rfl rfl ⟨by decide, by decide⟩ (Nat.le_of_ble_eq_true rfl) dX9_isDuplicate_18 ?_
    refine g_if_ne X (pc := 21) (tgt := 54) dX9_isDuplicate_21 (by decide) (fun hc => ?_) (fun hc => ?_)
    · have h := (if_neg hc).symm.trans h
      refine g_iconst X (pc := 54) (v := 0) dX9_isDuplicate_54 (by decide) ?_
      obtain ⟨hz, rfl⟩ := rN_some h
      exact g_nreturn X rfl hz hE dX9_isDuplicate_55
    · have h := (if_pos hc).symm.trans h
      refine g_aload_n X (pc := 24) 0 rfl rfl dX9_isDuplicate_24 ?_
      obtain ⟨v8, ev8, h⟩ := bd h
      refine g_getR X (pc := 25) fk_9_3 rfl rfl ev8 tb_237 dX9_isDuplicate_25 ?_
      obtain ⟨v9, ev9, h⟩ := bd h
      refine g_getI X (pc := 28) fk_3_7 rfl rfl ev9 tb_178 dX9_isDuplicate_28 ?_
      refine g_aload_n X (pc := 31) 1 rfl rfl dX9_isDuplicate_31 ?_
      obtain ⟨v10, ev10, h⟩ := bd h
      refine g_getI X (pc := 32) fk_1_7 rfl rfl ev10 tb_975 dX9_isDuplicate_32 ?_
      refine g_icmp_ne X (pc := 35) (tgt := 54) dX9_isDuplicate_35 (by decide) (fun hc => ?_) (fun hc => ?_)
      · have h := (if_neg hc).symm.trans h
        refine g_iconst X (pc := 54) (v := 0) dX9_isDuplicate_54 (by decide) ?_
        obtain ⟨hz, rfl⟩ := rN_some h
        exact g_nreturn X rfl hz hE dX9_isDuplicate_55
      · have h := (if_pos hc).symm.trans h
        refine g_aload_n X (pc := 38) 1 rfl rfl dX9_isDuplicate_38 ?_
        obtain ⟨v11, ev11, h⟩ := bd h
        refine g_getI X (pc := 39) fk_1_4 rfl rfl ev11 tb_968 dX9_isDuplicate_39 ?_
        refine g_aload_n X (pc := 42) 1 rfl rfl dX9_isDuplicate_42 ?_
        obtain ⟨v12, ev12, h⟩ := bd h
        refine g_getI X (pc := 43) fk_1_6 rfl rfl ev12 tb_973 dX9_isDuplicate_43 ?_
        refine g_isub X (pc := 46) dX9_isDuplicate_46 ?_
        refine g_if_ge X (pc := 47) (tgt := 54) dX9_isDuplicate_47 (by decide) (fun hc => ?_) (fun hc => ?_)
        · have h := (if_pos hc).symm.trans h
          refine g_iconst X (pc := 54) (v := 0) dX9_isDuplicate_54 (by decide) ?_
          obtain ⟨hz, rfl⟩ := rN_some h
          exact g_nreturn X rfl hz hE dX9_isDuplicate_55
        · have h := (if_neg hc).symm.trans h
          refine g_iconst X (pc := 50) (v := 1) dX9_isDuplicate_50 (by decide) ?_
          refine g_goto X (pc := 51) (tgt := 55) dX9_isDuplicate_51 (by decide) ?_
          obtain ⟨hz, rfl⟩ := rN_some h
          exact g_nreturn X rfl hz hE dX9_isDuplicate_55
theorem hyX9_isDuplicate : yX9_isDuplicate.cls ≠ "java/lang/invoke/MethodHandle" ∧ yX9_isDuplicate.cls ≠ "java/lang/invoke/VarHandle" ∧ (parseMethodDescriptor yX9_isDuplicate.desc).map (fun d => d.parameters.length) = some 1 := ⟨by decide +kernel, by decide +kernel, by decide +kernel⟩
theorem ctX9_isDuplicate (l : Launch) (E : Nat → Nat) (D : va_G) (dA : Nat → ClassId) (lo : Nat) (H0 : Heap) (fu : Nat) (a0 : Nat) (a1 : Option Nat) (M : Mm) (out : Int32 × Mm) (h : fX9_isDuplicate fu a0 a1 M = some out) : Ct l E D dA lo H0 yX9_isDuplicate cX9_isDuplicate 2 (some .boolean) 2 41 [pR (some a0), pR a1] M (some (pI out.1)) out.2 := by
  refine ct_of (by decide +kernel) (Nat.le_of_ble_eq_true rfl) ?_
  intro x hl he hd ha ho hh hn hin X hE
  exact wX9_isDuplicate X hE hn fu a0 a1 M h
/-! WebHost$Tcp.takeData(LWebHost$Connection;)V -/
def fX9_takeData_L45 (fu : Nat)  (a0 : Nat) (a1 : Option Nat)  (M : Mm) : Option (Mm) :=
    (gR M 1 80 a1).bind fun v1 =>
    (gR M 9 579 (some a0)).bind fun v2 =>
    (rc M 0 v1).bind fun q3 =>
    b2 (fX0_take fu q3 v2 M) fun v5 M4 =>
    if v5 = 0 then (
    some M4)
    else (
    (gR M4 9 576 (some a0)).bind fun v6 =>
    (gI M4 10 641 v6).bind fun v7 =>
    (rc M4 1 a1).bind fun q8 =>
    (fX1_otherSideEnds fu q8 v7 M4).bind fun M9 =>
    some M9)
def fX9_takeData_L24 (fu : Nat)  (a0 : Nat) (a1 : Option Nat)  (M : Mm) : Option (Mm) :=
    (gR M 9 579 (some a0)).bind fun v1 =>
    (gI M 3 201 v1).bind fun v2 =>
    if v2 ≤ 0 then (
    fX9_takeData_L45 fu  a0 a1 M)
    else (
    (gR M 9 576 (some a0)).bind fun v3 =>
    (gI M 10 641 v3).bind fun v4 =>
    (pF M 1 73 a1 v4).bind fun M5 =>
    fX9_takeData_L45 fu  a0 a1 M5)
def fX9_takeData (fu : Nat)  (a0 : Nat) (a1 : Option Nat)  (M : Mm) : Option (Mm) :=
    (gI M 1 64 a1).bind fun v1 =>
    if v1 = (2 : Int32) then (
    fX9_takeData_L24 fu  a0 a1 M)
    else (
    (gI M 1 64 a1).bind fun v2 =>
    if v2 = (3 : Int32) then (
    fX9_takeData_L24 fu  a0 a1 M)
    else (
    (gI M 1 64 a1).bind fun v3 =>
    if v3 = (4 : Int32) then (
    fX9_takeData_L24 fu  a0 a1 M)
    else (
    (gI M 1 64 a1).bind fun v4 =>
    if v4 = (6 : Int32) then (
    (gR M 9 579 (some a0)).bind fun v5 =>
    (rc M 3 v5).bind fun q6 =>
    b2 (fX3_has fu q6 (1 : Int32) M) fun v8 M7 =>
    if v8 = 0 then (
    some M7)
    else (
    (gR M7 9 576 (some a0)).bind fun v9 =>
    (gI M7 10 641 v9).bind fun v10 =>
    (rc M7 1 a1).bind fun q11 =>
    (fX1_linger fu q11 v10 M7).bind fun M12 =>
    some M12))
    else (
    some M))))
theorem dX9_takeData_0 : decode cX9_takeData 0 = .ok (.aload_n 1, 1) := by decide +kernel
theorem dX9_takeData_1 : decode cX9_takeData 1 = .ok (.getfield 36, 3) := by decide +kernel
theorem dX9_takeData_4 : decode cX9_takeData 4 = .ok (.iconst 2, 1) := by decide +kernel
theorem dX9_takeData_5 : decode cX9_takeData 5 = .ok (.if_icmp .eq 19, 3) := by decide +kernel
theorem dX9_takeData_8 : decode cX9_takeData 8 = .ok (.aload_n 1, 1) := by decide +kernel
theorem dX9_takeData_9 : decode cX9_takeData 9 = .ok (.getfield 36, 3) := by decide +kernel
theorem dX9_takeData_12 : decode cX9_takeData 12 = .ok (.iconst 3, 1) := by decide +kernel
theorem dX9_takeData_13 : decode cX9_takeData 13 = .ok (.if_icmp .eq 11, 3) := by decide +kernel
theorem dX9_takeData_16 : decode cX9_takeData 16 = .ok (.aload_n 1, 1) := by decide +kernel
theorem dX9_takeData_17 : decode cX9_takeData 17 = .ok (.getfield 36, 3) := by decide +kernel
theorem dX9_takeData_20 : decode cX9_takeData 20 = .ok (.iconst 4, 1) := by decide +kernel
theorem dX9_takeData_21 : decode cX9_takeData 21 = .ok (.if_icmp .ne 52, 3) := by decide +kernel
theorem dX9_takeData_24 : decode cX9_takeData 24 = .ok (.aload_n 0, 1) := by decide +kernel
theorem dX9_takeData_25 : decode cX9_takeData 25 = .ok (.getfield 23, 3) := by decide +kernel
theorem dX9_takeData_28 : decode cX9_takeData 28 = .ok (.getfield 169, 3) := by decide +kernel
theorem dX9_takeData_31 : decode cX9_takeData 31 = .ok (.ifCond .le 14, 3) := by decide +kernel
theorem dX9_takeData_34 : decode cX9_takeData 34 = .ok (.aload_n 1, 1) := by decide +kernel
theorem dX9_takeData_35 : decode cX9_takeData 35 = .ok (.aload_n 0, 1) := by decide +kernel
theorem dX9_takeData_36 : decode cX9_takeData 36 = .ok (.getfield 9, 3) := by decide +kernel
theorem dX9_takeData_39 : decode cX9_takeData 39 = .ok (.getfield 147, 3) := by decide +kernel
theorem dX9_takeData_42 : decode cX9_takeData 42 = .ok (.putfield 172, 3) := by decide +kernel
theorem dX9_takeData_45 : decode cX9_takeData 45 = .ok (.aload_n 1, 1) := by decide +kernel
theorem dX9_takeData_46 : decode cX9_takeData 46 = .ok (.getfield 75, 3) := by decide +kernel
theorem dX9_takeData_49 : decode cX9_takeData 49 = .ok (.aload_n 0, 1) := by decide +kernel
theorem dX9_takeData_50 : decode cX9_takeData 50 = .ok (.getfield 23, 3) := by decide +kernel
theorem dX9_takeData_53 : decode cX9_takeData 53 = .ok (.invokevirtual 175, 3) := by decide +kernel
theorem dX9_takeData_56 : decode cX9_takeData 56 = .ok (.ifCond .eq 48, 3) := by decide +kernel
theorem dX9_takeData_59 : decode cX9_takeData 59 = .ok (.aload_n 1, 1) := by decide +kernel
theorem dX9_takeData_60 : decode cX9_takeData 60 = .ok (.aload_n 0, 1) := by decide +kernel
theorem dX9_takeData_61 : decode cX9_takeData 61 = .ok (.getfield 9, 3) := by decide +kernel
theorem dX9_takeData_64 : decode cX9_takeData 64 = .ok (.getfield 147, 3) := by decide +kernel
theorem dX9_takeData_67 : decode cX9_takeData 67 = .ok (.invokevirtual 178, 3) := by decide +kernel
theorem dX9_takeData_70 : decode cX9_takeData 70 = .ok (.goto 34, 3) := by decide +kernel
theorem dX9_takeData_73 : decode cX9_takeData 73 = .ok (.aload_n 1, 1) := by decide +kernel
theorem dX9_takeData_74 : decode cX9_takeData 74 = .ok (.getfield 36, 3) := by decide +kernel
theorem dX9_takeData_77 : decode cX9_takeData 77 = .ok (.bipush 6, 2) := by decide +kernel
theorem dX9_takeData_79 : decode cX9_takeData 79 = .ok (.if_icmp .ne 25, 3) := by decide +kernel
theorem dX9_takeData_82 : decode cX9_takeData 82 = .ok (.aload_n 0, 1) := by decide +kernel
theorem dX9_takeData_83 : decode cX9_takeData 83 = .ok (.getfield 23, 3) := by decide +kernel
theorem dX9_takeData_86 : decode cX9_takeData 86 = .ok (.iconst 1, 1) := by decide +kernel
theorem dX9_takeData_87 : decode cX9_takeData 87 = .ok (.invokevirtual 89, 3) := by decide +kernel
theorem dX9_takeData_90 : decode cX9_takeData 90 = .ok (.ifCond .eq 14, 3) := by decide +kernel
theorem dX9_takeData_93 : decode cX9_takeData 93 = .ok (.aload_n 1, 1) := by decide +kernel
theorem dX9_takeData_94 : decode cX9_takeData 94 = .ok (.aload_n 0, 1) := by decide +kernel
theorem dX9_takeData_95 : decode cX9_takeData 95 = .ok (.getfield 9, 3) := by decide +kernel
theorem dX9_takeData_98 : decode cX9_takeData 98 = .ok (.getfield 147, 3) := by decide +kernel
theorem dX9_takeData_101 : decode cX9_takeData 101 = .ok (.invokevirtual 165, 3) := by decide +kernel
theorem dX9_takeData_104 : decode cX9_takeData 104 = .ok (.return_, 1) := by decide +kernel
theorem wX9_takeData_L45 {x : GX} {n0 sl0 : Nat} (X : Cx x cX9_takeData RX9 none n0 sl0 4 89) {out : Mm} (hE : Ends x n0 sl0 none out) (hn : xn x = 2) (fu : Nat)   (a0 : Nat) (a1 : Option Nat)  (M : Mm) (h : fX9_takeData_L45 fu  a0 a1 M = some out) : Gw x M 45 [(0, pR (some a0)), (1, pR a1)] [] := by
  unfold fX9_takeData_L45 at h
  refine g_aload_n X (pc := 45) 1 rfl rfl dX9_takeData_45 ?_
  obtain ⟨v1, ev1, h⟩ := bd h
  refine g_getR X (pc := 46) fk_1_16 rfl rfl ev1 tb_995 dX9_takeData_46 ?_
  refine g_aload_n X (pc := 49) 0 rfl rfl dX9_takeData_49 ?_
  obtain ⟨v2, ev2, h⟩ := bd h
  refine g_getR X (pc := 50) fk_9_3 rfl rfl ev2 tb_237 dX9_takeData_50 ?_
  obtain ⟨q3, eq3, h⟩ := bd h
  obtain ⟨v5, M4, eM4, h⟩ := b2d h
  refine g_callV X (pc := 53) (M' := M4) (ro := some (pI v5)) (c := 0) rfl (by decide) (as := [pR v2]) (as' := [pR v2]) (st := []) eq3 (ctX0_take _ _ _ _ _ _ fu q3 v2 M _ eM4) tb_1143 tb_1140 tb_1141 tb_1142 tb_19 ⟨rfl, hyX0_take⟩ rfl rfl ⟨by decide, by decide⟩ (Nat.le_of_ble_eq_true rfl) dX9_takeData_53 ?_
  refine g_if_eq X (pc := 56) (tgt := 104) dX9_takeData_56 (by decide) (fun hc => ?_) (fun hc => ?_)
  · have h := (if_pos hc).symm.trans h
    obtain rfl := Option.some.inj h
    exact g_return X hE dX9_takeData_104
  · have h := (if_neg hc).symm.trans h
    refine g_aload_n X (pc := 59) 1 rfl rfl dX9_takeData_59 ?_
    refine g_aload_n X (pc := 60) 0 rfl rfl dX9_takeData_60 ?_
    obtain ⟨v6, ev6, h⟩ := bd h
    refine g_getR X (pc := 61) fk_9_0 rfl rfl ev6 tb_234 dX9_takeData_61 ?_
    obtain ⟨v7, ev7, h⟩ := bd h
    refine g_getI X (pc := 64) fk_10_1 rfl rfl ev7 tb_71 dX9_takeData_64 ?_
    obtain ⟨q8, eq8, h⟩ := bd h
    obtain ⟨M9, eM9, h⟩ := bd h
    refine g_callV X (pc := 67) (M' := M9) (ro := none) (c := 1) rfl (by decide) (as := [pI v7]) (as' := [pI v7]) (st := []) eq8 (ctX1_otherSideEnds _ _ _ _ _ _ fu q8 v7 M4 _ eM9) tb_1157 tb_1154 tb_1155 tb_1156 tb_18 ⟨rfl, hyX1_otherSideEnds⟩ rfl rfl ⟨by decide, by decide⟩ (Nat.le_of_ble_eq_true rfl) dX9_takeData_67 ?_
    refine g_goto X (pc := 70) (tgt := 104) dX9_takeData_70 (by decide) ?_
    obtain rfl := Option.some.inj h
    exact g_return X hE dX9_takeData_104
theorem wX9_takeData_L24 {x : GX} {n0 sl0 : Nat} (X : Cx x cX9_takeData RX9 none n0 sl0 4 89) {out : Mm} (hE : Ends x n0 sl0 none out) (hn : xn x = 2) (fu : Nat)   (a0 : Nat) (a1 : Option Nat)  (M : Mm) (h : fX9_takeData_L24 fu  a0 a1 M = some out) : Gw x M 24 [(0, pR (some a0)), (1, pR a1)] [] := by
  unfold fX9_takeData_L24 at h
  refine g_aload_n X (pc := 24) 0 rfl rfl dX9_takeData_24 ?_
  obtain ⟨v1, ev1, h⟩ := bd h
  refine g_getR X (pc := 25) fk_9_3 rfl rfl ev1 tb_237 dX9_takeData_25 ?_
  obtain ⟨v2, ev2, h⟩ := bd h
  refine g_getI X (pc := 28) fk_3_9 rfl rfl ev2 tb_183 dX9_takeData_28 ?_
  refine g_if_le X (pc := 31) (tgt := 45) dX9_takeData_31 (by decide) (fun hc => ?_) (fun hc => ?_)
  · have h := (if_pos hc).symm.trans h
    exact wX9_takeData_L45 X hE hn fu   a0 a1 M h
  · have h := (if_neg hc).symm.trans h
    refine g_aload_n X (pc := 34) 1 rfl rfl dX9_takeData_34 ?_
    refine g_aload_n X (pc := 35) 0 rfl rfl dX9_takeData_35 ?_
    obtain ⟨v3, ev3, h⟩ := bd h
    refine g_getR X (pc := 36) fk_9_0 rfl rfl ev3 tb_234 dX9_takeData_36 ?_
    obtain ⟨v4, ev4, h⟩ := bd h
    refine g_getI X (pc := 39) fk_10_1 rfl rfl ev4 tb_71 dX9_takeData_39 ?_
    obtain ⟨M5, eM5, h⟩ := bd h
    refine g_putI X (pc := 42) fk_1_9 rfl rfl rfl eM5 tb_977 (Or.inl rfl) dX9_takeData_42 ?_
    exact wX9_takeData_L45 X hE hn fu   a0 a1 M5 h
theorem wX9_takeData {x : GX} {n0 sl0 : Nat} (X : Cx x cX9_takeData RX9 none n0 sl0 4 89) {out : Mm} (hE : Ends x n0 sl0 none out) (hn : xn x = 2) (fu : Nat)   (a0 : Nat) (a1 : Option Nat)  (M : Mm) (h : fX9_takeData fu  a0 a1 M = some out) : Gw x M 0 [(0, pR (some a0)), (1, pR a1)] [] := by
  unfold fX9_takeData at h
  refine g_aload_n X (pc := 0) 1 rfl rfl dX9_takeData_0 ?_
  obtain ⟨v1, ev1, h⟩ := bd h
  refine g_getI X (pc := 1) fk_1_0 rfl rfl ev1 tb_959 dX9_takeData_1 ?_
  refine g_iconst X (pc := 4) (v := 2) dX9_takeData_4 (by decide) ?_
  refine g_icmp_eq X (pc := 5) (tgt := 24) dX9_takeData_5 (by decide) (fun hc => ?_) (fun hc => ?_)
  · have h := (if_pos hc).symm.trans h
    exact wX9_takeData_L24 X hE hn fu   a0 a1 M h
  · have h := (if_neg hc).symm.trans h
    refine g_aload_n X (pc := 8) 1 rfl rfl dX9_takeData_8 ?_
    obtain ⟨v2, ev2, h⟩ := bd h
    refine g_getI X (pc := 9) fk_1_0 rfl rfl ev2 tb_959 dX9_takeData_9 ?_
    refine g_iconst X (pc := 12) (v := 3) dX9_takeData_12 (by decide) ?_
    refine g_icmp_eq X (pc := 13) (tgt := 24) dX9_takeData_13 (by decide) (fun hc => ?_) (fun hc => ?_)
    · have h := (if_pos hc).symm.trans h
      exact wX9_takeData_L24 X hE hn fu   a0 a1 M h
    · have h := (if_neg hc).symm.trans h
      refine g_aload_n X (pc := 16) 1 rfl rfl dX9_takeData_16 ?_
      obtain ⟨v3, ev3, h⟩ := bd h
      refine g_getI X (pc := 17) fk_1_0 rfl rfl ev3 tb_959 dX9_takeData_17 ?_
      refine g_iconst X (pc := 20) (v := 4) dX9_takeData_20 (by decide) ?_
      refine g_icmp_ne X (pc := 21) (tgt := 73) dX9_takeData_21 (by decide) (fun hc => ?_) (fun hc => ?_)
      · have h := (if_neg hc).symm.trans h
        refine g_aload_n X (pc := 73) 1 rfl rfl dX9_takeData_73 ?_
        obtain ⟨v4, ev4, h⟩ := bd h
        refine g_getI X (pc := 74) fk_1_0 rfl rfl ev4 tb_959 dX9_takeData_74 ?_
        refine g_bipush X (pc := 77) (v := 6) dX9_takeData_77 (by decide) ?_
        refine g_icmp_ne X (pc := 79) (tgt := 104) dX9_takeData_79 (by decide) (fun hc => ?_) (fun hc => ?_)
        · have h := (if_neg hc).symm.trans h
          obtain rfl := Option.some.inj h
          exact g_return X hE dX9_takeData_104
        · have h := (if_pos hc).symm.trans h
          refine g_aload_n X (pc := 82) 0 rfl rfl dX9_takeData_82 ?_
          obtain ⟨v5, ev5, h⟩ := bd h
          refine g_getR X (pc := 83) fk_9_3 rfl rfl ev5 tb_237 dX9_takeData_83 ?_
          refine g_iconst X (pc := 86) (v := 1) dX9_takeData_86 (by decide) ?_
          obtain ⟨q6, eq6, h⟩ := bd h
          obtain ⟨v8, M7, eM7, h⟩ := b2d h
          refine g_callV X (pc := 87) (M' := M7) (ro := some (pI v8)) (c := 3) rfl (by decide) (as := [pI (1 : Int32)]) (as' := [pI (1 : Int32)]) (st := []) eq6 (ctX3_has _ _ _ _ _ _ fu q6 (1 : Int32) M _ eM7) tb_835 tb_832 tb_833 tb_834 tb_5 ⟨rfl, hyX3_has⟩ rfl rfl ⟨by decide, by decide⟩ (Nat.le_of_ble_eq_true rfl) dX9_takeData_87 ?_
          refine g_if_eq X (pc := 90) (tgt := 104) dX9_takeData_90 (by decide) (fun hc => ?_) (fun hc => ?_)
          · have h := (if_pos hc).symm.trans h
            obtain rfl := Option.some.inj h
            exact g_return X hE dX9_takeData_104
          · have h := (if_neg hc).symm.trans h
            refine g_aload_n X (pc := 93) 1 rfl rfl dX9_takeData_93 ?_
            refine g_aload_n X (pc := 94) 0 rfl rfl dX9_takeData_94 ?_
            obtain ⟨v9, ev9, h⟩ := bd h
            refine g_getR X (pc := 95) fk_9_0 rfl rfl ev9 tb_234 dX9_takeData_95 ?_
            obtain ⟨v10, ev10, h⟩ := bd h
            refine g_getI X (pc := 98) fk_10_1 rfl rfl ev10 tb_71 dX9_takeData_98 ?_
            obtain ⟨q11, eq11, h⟩ := bd h
            obtain ⟨M12, eM12, h⟩ := bd h
            refine g_callV X (pc := 101) (M' := M12) (ro := none) (c := 1) rfl (by decide) (as := [pI v10]) (as' := [pI v10]) (st := []) eq11 (ctX1_linger _ _ _ _ _ _ fu q11 v10 M7 _ eM12) tb_1085 tb_1082 tb_1083 tb_1084 tb_18 ⟨rfl, hyX1_linger⟩ rfl rfl ⟨by decide, by decide⟩ (Nat.le_of_ble_eq_true rfl) dX9_takeData_101 ?_
            obtain rfl := Option.some.inj h
            exact g_return X hE dX9_takeData_104
      · have h := (if_pos hc).symm.trans h
        exact wX9_takeData_L24 X hE hn fu   a0 a1 M h
theorem hyX9_takeData : yX9_takeData.cls ≠ "java/lang/invoke/MethodHandle" ∧ yX9_takeData.cls ≠ "java/lang/invoke/VarHandle" ∧ (parseMethodDescriptor yX9_takeData.desc).map (fun d => d.parameters.length) = some 1 := ⟨by decide +kernel, by decide +kernel, by decide +kernel⟩
theorem ctX9_takeData (l : Launch) (E : Nat → Nat) (D : va_G) (dA : Nat → ClassId) (lo : Nat) (H0 : Heap) (fu : Nat) (a0 : Nat) (a1 : Option Nat) (M : Mm) (out : Mm) (h : fX9_takeData fu a0 a1 M = some out) : Ct l E D dA lo H0 yX9_takeData cX9_takeData 2 none 4 89 [pR (some a0), pR a1] M none out := by
  refine ct_of (by decide +kernel) (Nat.le_of_ble_eq_true rfl) ?_
  intro x hl he hd ha ho hh hn hin X hE
  exact wX9_takeData X hE hn fu a0 a1 M h
/-! WebHost$Wire.<init>()V -/
def fX10_init (fu : Nat)  (a0 : Nat)  (M : Mm) : Option (Mm) :=
    b2 (mkA M 101 (8 : Int32)) fun v1 M2 =>
    (pG M2 10 640 (some a0) (some v1)).bind fun M3 =>
    b2 (mkA M3 116 (32 : Int32)) fun v4 M5 =>
    (pG M5 10 644 (some a0) (some v4)).bind fun M6 =>
    some M6
theorem dX10_init_0 : decode cX10_init 0 = .ok (.aload_n 0, 1) := by decide +kernel
theorem dX10_init_1 : decode cX10_init 1 = .ok (.invokespecial 3, 3) := by decide +kernel
theorem dX10_init_4 : decode cX10_init 4 = .ok (.aload_n 0, 1) := by decide +kernel
theorem dX10_init_5 : decode cX10_init 5 = .ok (.bipush 8, 2) := by decide +kernel
theorem dX10_init_7 : decode cX10_init 7 = .ok (.newarray .int, 2) := by decide +kernel
theorem dX10_init_9 : decode cX10_init 9 = .ok (.putfield 9, 3) := by decide +kernel
theorem dX10_init_12 : decode cX10_init 12 = .ok (.aload_n 0, 1) := by decide +kernel
theorem dX10_init_13 : decode cX10_init 13 = .ok (.bipush 32, 2) := by decide +kernel
theorem dX10_init_15 : decode cX10_init 15 = .ok (.anewarray 15, 3) := by decide +kernel
theorem dX10_init_18 : decode cX10_init 18 = .ok (.putfield 17, 3) := by decide +kernel
theorem dX10_init_21 : decode cX10_init 21 = .ok (.return_, 1) := by decide +kernel
theorem wX10_init {x : GX} {n0 sl0 : Nat} (X : Cx x cX10_init RX10 none n0 sl0 1 12) {out : Mm} (hE : Ends x n0 sl0 none out) (hn : xn x = 1) (hin : (xt x).name = "<init>") (fu : Nat)   (a0 : Nat)  (M : Mm) (h : fX10_init fu  a0 M = some out) : Gw x M 0 [(0, pR (some a0))] [] := by
  unfold fX10_init at h
  refine g_aload_n X (pc := 0) 0 rfl rfl dX10_init_0 ?_
  refine g_objInit X (pc := 1) (o := (some a0)) ⟨_, rfl⟩ tb_59 tb_32 tb_33 ⟨by decide, Nat.le_of_ble_eq_true rfl⟩ dX10_init_1 ?_
  refine g_aload_n X (pc := 4) 0 rfl rfl dX10_init_4 ?_
  refine g_bipush X (pc := 5) (v := 8) dX10_init_5 (by decide) ?_
  obtain ⟨v1, M2, eM2, h⟩ := b2d h
  refine g_newarray X (pc := 7) (at9 := .int) (k := 1) rfl (by decide) rfl (by decide) (fun _ _ q => q) tb_89 eM2 dX10_init_7 ?_
  obtain ⟨M3, eM3, h⟩ := bd h
  refine g_putG X (pc := 9) fk_10_0 rfl rfl rfl eM3 tb_62 (Or.inr ⟨rfl, hin, rfl⟩) dX10_init_9 ?_
  refine g_aload_n X (pc := 12) 0 rfl rfl dX10_init_12 ?_
  refine g_bipush X (pc := 13) (v := 32) dX10_init_13 (by decide) ?_
  obtain ⟨v4, M5, eM5, h⟩ := b2d h
  refine g_anewarray X (pc := 15) (k := 3) rfl (by decide) (by decide) tb_60 eM5 dX10_init_15 ?_
  obtain ⟨M6, eM6, h⟩ := bd h
  refine g_putG X (pc := 18) fk_10_4 rfl rfl rfl eM6 tb_77 (Or.inr ⟨rfl, hin, rfl⟩) dX10_init_18 ?_
  obtain rfl := Option.some.inj h
  exact g_return X hE dX10_init_21
theorem hyX10_init : yX10_init.cls ≠ "java/lang/invoke/MethodHandle" ∧ yX10_init.cls ≠ "java/lang/invoke/VarHandle" ∧ (parseMethodDescriptor yX10_init.desc).map (fun d => d.parameters.length) = some 0 := ⟨by decide +kernel, by decide +kernel, by decide +kernel⟩
theorem ctX10_init (l : Launch) (E : Nat → Nat) (D : va_G) (dA : Nat → ClassId) (lo : Nat) (H0 : Heap) (fu : Nat) (a0 : Nat) (M : Mm) (out : Mm) (h : fX10_init fu a0 M = some out) : Ct l E D dA lo H0 yX10_init cX10_init 1 none 1 12 [pR (some a0)] M none out := by
  refine ct_of (by decide +kernel) (Nat.le_of_ble_eq_true rfl) ?_
  intro x hl he hd ha ho hh hn hin X hE
  exact wX10_init X hE hn hin fu a0 M h
/-! WebHost$Wire.restart()V -/
def fX10_restart (fu : Nat)  (a0 : Nat)  (M : Mm) : Option (Mm) :=
    (gR M 10 640 (some a0)).bind fun v1 =>
    (fJ7_fill_53178 fu  v1 (0 : Int32) M).bind fun M2 =>
    (pF M2 10 641 (some a0) (0 : Int32)).bind fun M3 =>
    (pF M3 10 642 (some a0) (0 : Int32)).bind fun M4 =>
    (pF M4 10 643 (some a0) (0 : Int32)).bind fun M5 =>
    some M5
theorem dX10_restart_0 : decode cX10_restart 0 = .ok (.aload_n 0, 1) := by decide +kernel
theorem dX10_restart_1 : decode cX10_restart 1 = .ok (.getfield 9, 3) := by decide +kernel
theorem dX10_restart_4 : decode cX10_restart 4 = .ok (.iconst 0, 1) := by decide +kernel
theorem dX10_restart_5 : decode cX10_restart 5 = .ok (.invokestatic 21, 3) := by decide +kernel
theorem dX10_restart_8 : decode cX10_restart 8 = .ok (.aload_n 0, 1) := by decide +kernel
theorem dX10_restart_9 : decode cX10_restart 9 = .ok (.iconst 0, 1) := by decide +kernel
theorem dX10_restart_10 : decode cX10_restart 10 = .ok (.putfield 27, 3) := by decide +kernel
theorem dX10_restart_13 : decode cX10_restart 13 = .ok (.aload_n 0, 1) := by decide +kernel
theorem dX10_restart_14 : decode cX10_restart 14 = .ok (.iconst 0, 1) := by decide +kernel
theorem dX10_restart_15 : decode cX10_restart 15 = .ok (.putfield 31, 3) := by decide +kernel
theorem dX10_restart_18 : decode cX10_restart 18 = .ok (.aload_n 0, 1) := by decide +kernel
theorem dX10_restart_19 : decode cX10_restart 19 = .ok (.iconst 0, 1) := by decide +kernel
theorem dX10_restart_20 : decode cX10_restart 20 = .ok (.putfield 34, 3) := by decide +kernel
theorem dX10_restart_23 : decode cX10_restart 23 = .ok (.return_, 1) := by decide +kernel
theorem wX10_restart {x : GX} {n0 sl0 : Nat} (X : Cx x cX10_restart RX10 none n0 sl0 1 23) {out : Mm} (hE : Ends x n0 sl0 none out) (hn : xn x = 1) (fu : Nat)   (a0 : Nat)  (M : Mm) (h : fX10_restart fu  a0 M = some out) : Gw x M 0 [(0, pR (some a0))] [] := by
  unfold fX10_restart at h
  refine g_aload_n X (pc := 0) 0 rfl rfl dX10_restart_0 ?_
  obtain ⟨v1, ev1, h⟩ := bd h
  refine g_getR X (pc := 1) fk_10_0 rfl rfl ev1 tb_62 dX10_restart_1 ?_
  refine g_iconst X (pc := 4) (v := 0) dX10_restart_4 (by decide) ?_
  obtain ⟨M2, eM2, h⟩ := bd h
  refine g_callS X (pc := 5) (M' := M2) (ro := none) (as := [pR v1, pI (0 : Int32)]) (as' := [pI (0 : Int32), pR v1]) (st := []) (ctJ7_fill_53178 _ _ _ _ _ _ fu  v1 (0 : Int32) M _ eM2) tb_436 tb_434 tb_435 tb_14 hyJ7_fill_53178 rfl rfl ⟨by decide, by decide⟩ (Nat.le_of_ble_eq_true rfl) dX10_restart_5 ?_
  refine g_aload_n X (pc := 8) 0 rfl rfl dX10_restart_8 ?_
  refine g_iconst X (pc := 9) (v := 0) dX10_restart_9 (by decide) ?_
  obtain ⟨M3, eM3, h⟩ := bd h
  refine g_putI X (pc := 10) fk_10_1 rfl rfl rfl eM3 tb_67 (Or.inl rfl) dX10_restart_10 ?_
  refine g_aload_n X (pc := 13) 0 rfl rfl dX10_restart_13 ?_
  refine g_iconst X (pc := 14) (v := 0) dX10_restart_14 (by decide) ?_
  obtain ⟨M4, eM4, h⟩ := bd h
  refine g_putI X (pc := 15) fk_10_2 rfl rfl rfl eM4 tb_72 (Or.inl rfl) dX10_restart_15 ?_
  refine g_aload_n X (pc := 18) 0 rfl rfl dX10_restart_18 ?_
  refine g_iconst X (pc := 19) (v := 0) dX10_restart_19 (by decide) ?_
  obtain ⟨M5, eM5, h⟩ := bd h
  refine g_putI X (pc := 20) fk_10_3 rfl rfl rfl eM5 tb_74 (Or.inl rfl) dX10_restart_20 ?_
  obtain rfl := Option.some.inj h
  exact g_return X hE dX10_restart_23
theorem hyX10_restart : yX10_restart.cls ≠ "java/lang/invoke/MethodHandle" ∧ yX10_restart.cls ≠ "java/lang/invoke/VarHandle" ∧ (parseMethodDescriptor yX10_restart.desc).map (fun d => d.parameters.length) = some 0 := ⟨by decide +kernel, by decide +kernel, by decide +kernel⟩
theorem ctX10_restart (l : Launch) (E : Nat → Nat) (D : va_G) (dA : Nat → ClassId) (lo : Nat) (H0 : Heap) (fu : Nat) (a0 : Nat) (M : Mm) (out : Mm) (h : fX10_restart fu a0 M = some out) : Ct l E D dA lo H0 yX10_restart cX10_restart 1 none 1 23 [pR (some a0)] M none out := by
  refine ct_of (by decide +kernel) (Nat.le_of_ble_eq_true rfl) ?_
  intro x hl he hd ha ho hh hn hin X hE
  exact wX10_restart X hE hn fu a0 M h
/-! WebHost$Wire.back(I)LWebHost$Packet; -/
def fX10_back (fu : Nat)  (a0 : Nat) (a1 : Int32)  (M : Mm) : Option (Option Nat × Mm) :=
    if a1 < 0 then (
    some (none, M))
    else (
    if (32 : Int32) ≤ a1 then (
    some (none, M))
    else (
    (gI M 10 642 (some a0)).bind fun v1 =>
    if a1 < v1 then (
    (gR M 10 644 (some a0)).bind fun v2 =>
    (gI M 10 642 (some a0)).bind fun v3 =>
    (gB M 116 v2 (irm ((v3 - (1 : Int32)) - a1) (32 : Int32))).bind fun v4 =>
    some (v4, M))
    else (
    some (none, M))))
theorem dX10_back_0 : decode cX10_back 0 = .ok (.iload_n 1, 1) := by decide +kernel
theorem dX10_back_1 : decode cX10_back 1 = .ok (.ifCond .lt 17, 3) := by decide +kernel
theorem dX10_back_4 : decode cX10_back 4 = .ok (.iload_n 1, 1) := by decide +kernel
theorem dX10_back_5 : decode cX10_back 5 = .ok (.bipush 32, 2) := by decide +kernel
theorem dX10_back_7 : decode cX10_back 7 = .ok (.if_icmp .ge 11, 3) := by decide +kernel
theorem dX10_back_10 : decode cX10_back 10 = .ok (.iload_n 1, 1) := by decide +kernel
theorem dX10_back_11 : decode cX10_back 11 = .ok (.aload_n 0, 1) := by decide +kernel
theorem dX10_back_12 : decode cX10_back 12 = .ok (.getfield 31, 3) := by decide +kernel
theorem dX10_back_15 : decode cX10_back 15 = .ok (.if_icmp .lt 5, 3) := by decide +kernel
theorem dX10_back_18 : decode cX10_back 18 = .ok (.aconst_null, 1) := by decide +kernel
theorem dX10_back_19 : decode cX10_back 19 = .ok (.areturn, 1) := by decide +kernel
theorem dX10_back_20 : decode cX10_back 20 = .ok (.aload_n 0, 1) := by decide +kernel
theorem dX10_back_21 : decode cX10_back 21 = .ok (.getfield 17, 3) := by decide +kernel
theorem dX10_back_24 : decode cX10_back 24 = .ok (.aload_n 0, 1) := by decide +kernel
theorem dX10_back_25 : decode cX10_back 25 = .ok (.getfield 31, 3) := by decide +kernel
theorem dX10_back_28 : decode cX10_back 28 = .ok (.iconst 1, 1) := by decide +kernel
theorem dX10_back_29 : decode cX10_back 29 = .ok (.isub, 1) := by decide +kernel
theorem dX10_back_30 : decode cX10_back 30 = .ok (.iload_n 1, 1) := by decide +kernel
theorem dX10_back_31 : decode cX10_back 31 = .ok (.isub, 1) := by decide +kernel
theorem dX10_back_32 : decode cX10_back 32 = .ok (.bipush 32, 2) := by decide +kernel
theorem dX10_back_34 : decode cX10_back 34 = .ok (.irem, 1) := by decide +kernel
theorem dX10_back_35 : decode cX10_back 35 = .ok (.aaload, 1) := by decide +kernel
theorem dX10_back_36 : decode cX10_back 36 = .ok (.areturn, 1) := by decide +kernel
theorem wX10_back {x : GX} {n0 sl0 : Nat} (X : Cx x cX10_back RX10 (some (.object "WebHost$Packet")) n0 sl0 0 0) {out : Option Nat × Mm} (hE : Ends x n0 sl0 (some (pR out.1)) out.2) (hn : xn x = 2) (fu : Nat)   (a0 : Nat) (a1 : Int32)  (M : Mm) (h : fX10_back fu  a0 a1 M = some out) : Gw x M 0 [(0, pR (some a0)), (1, pI a1)] [] := by
  unfold fX10_back at h
  refine g_iload_n X (pc := 0) 1 rfl rfl dX10_back_0 ?_
  refine g_if_lt X (pc := 1) (tgt := 18) dX10_back_1 (by decide) (fun hc => ?_) (fun hc => ?_)
  · have h := (if_pos hc).symm.trans h
    refine g_null X (pc := 18) dX10_back_18 ?_
    obtain rfl := Option.some.inj h
    exact g_areturn X rfl (Or.inl ⟨_, rfl⟩) hE dX10_back_19
  · have h := (if_neg hc).symm.trans h
    refine g_iload_n X (pc := 4) 1 rfl rfl dX10_back_4 ?_
    refine g_bipush X (pc := 5) (v := 32) dX10_back_5 (by decide) ?_
    refine g_icmp_ge X (pc := 7) (tgt := 18) dX10_back_7 (by decide) (fun hc => ?_) (fun hc => ?_)
    · have h := (if_pos hc).symm.trans h
      refine g_null X (pc := 18) dX10_back_18 ?_
      obtain rfl := Option.some.inj h
      exact g_areturn X rfl (Or.inl ⟨_, rfl⟩) hE dX10_back_19
    · have h := (if_neg hc).symm.trans h
      refine g_iload_n X (pc := 10) 1 rfl rfl dX10_back_10 ?_
      refine g_aload_n X (pc := 11) 0 rfl rfl dX10_back_11 ?_
      obtain ⟨v1, ev1, h⟩ := bd h
      refine g_getI X (pc := 12) fk_10_2 rfl rfl ev1 tb_72 dX10_back_12 ?_
      refine g_icmp_lt X (pc := 15) (tgt := 20) dX10_back_15 (by decide) (fun hc => ?_) (fun hc => ?_)
      · have h := (if_pos hc).symm.trans h
        refine g_aload_n X (pc := 20) 0 rfl rfl dX10_back_20 ?_
        obtain ⟨v2, ev2, h⟩ := bd h
        refine g_getR X (pc := 21) fk_10_4 rfl rfl ev2 tb_77 dX10_back_21 ?_
        refine g_aload_n X (pc := 24) 0 rfl rfl dX10_back_24 ?_
        obtain ⟨v3, ev3, h⟩ := bd h
        refine g_getI X (pc := 25) fk_10_2 rfl rfl ev3 tb_72 dX10_back_25 ?_
        refine g_iconst X (pc := 28) (v := 1) dX10_back_28 (by decide) ?_
        refine g_isub X (pc := 29) dX10_back_29 ?_
        refine g_iload_n X (pc := 30) 1 rfl rfl dX10_back_30 ?_
        refine g_isub X (pc := 31) dX10_back_31 ?_
        refine g_bipush X (pc := 32) (v := 32) dX10_back_32 (by decide) ?_
        refine g_irem X (pc := 34) (by decide) dX10_back_34 ?_
        obtain ⟨v4, ev4, h⟩ := bd h
        refine g_aaload X (pc := 35) (k := 3) rfl rfl (by decide) ev4 dX10_back_35 ?_
        obtain rfl := Option.some.inj h
        exact g_areturn X rfl (Or.inl ⟨_, rfl⟩) hE dX10_back_36
      · have h := (if_neg hc).symm.trans h
        refine g_null X (pc := 18) dX10_back_18 ?_
        obtain rfl := Option.some.inj h
        exact g_areturn X rfl (Or.inl ⟨_, rfl⟩) hE dX10_back_19
theorem hyX10_back : yX10_back.cls ≠ "java/lang/invoke/MethodHandle" ∧ yX10_back.cls ≠ "java/lang/invoke/VarHandle" ∧ (parseMethodDescriptor yX10_back.desc).map (fun d => d.parameters.length) = some 1 := ⟨by decide +kernel, by decide +kernel, by decide +kernel⟩
theorem ctX10_back (l : Launch) (E : Nat → Nat) (D : va_G) (dA : Nat → ClassId) (lo : Nat) (H0 : Heap) (fu : Nat) (a0 : Nat) (a1 : Int32) (M : Mm) (out : Option Nat × Mm) (h : fX10_back fu a0 a1 M = some out) : Ct l E D dA lo H0 yX10_back cX10_back 2 (some (.object "WebHost$Packet")) 0 0 [pR (some a0), pI a1] M (some (pR out.1)) out.2 := by
  refine ct_of (by decide +kernel) (Nat.le_of_ble_eq_true rfl) ?_
  intro x hl he hd ha ho hh hn hin X hE
  exact wX10_back X hE hn fu a0 a1 M h
/-! WebHost.<init>()V -/
def fX11_init (fu : Nat)  (a0 : Nat)  (M : Mm) : Option (Mm) :=
    b2 (mkO M 8) fun v1 M2 =>
    (fX8_init fu v1  M2).bind fun M3 =>
    (pG M3 11 704 (some a0) (some v1)).bind fun M4 =>
    b2 (mkO M4 10) fun v5 M6 =>
    (fX10_init fu v5  M6).bind fun M7 =>
    (pG M7 11 705 (some a0) (some v5)).bind fun M8 =>
    b2 (mkO M8 4) fun v9 M10 =>
    (gR M10 11 705 (some a0)).bind fun v11 =>
    (fX4_init fu v9 v11 M10).bind fun M12 =>
    (pG M12 11 706 (some a0) (some v9)).bind fun M13 =>
    b2 (mkO M13 3) fun v14 M15 =>
    (gR M15 11 705 (some a0)).bind fun v16 =>
    (gR M15 11 706 (some a0)).bind fun v17 =>
    (fX3_init fu v14 v16 v17 M15).bind fun M18 =>
    (pG M18 11 707 (some a0) (some v14)).bind fun M19 =>
    b2 (mkO M19 9) fun v20 M21 =>
    (gR M21 11 705 (some a0)).bind fun v22 =>
    (gR M21 11 706 (some a0)).bind fun v23 =>
    (gR M21 11 704 (some a0)).bind fun v24 =>
    (gR M21 11 707 (some a0)).bind fun v25 =>
    (fX9_init fu v20 v22 v23 v24 v25 M21).bind fun M26 =>
    (pG M26 11 708 (some a0) (some v20)).bind fun M27 =>
    b2 (mkO M27 7) fun v28 M29 =>
    (gR M29 11 704 (some a0)).bind fun v30 =>
    (gR M29 11 705 (some a0)).bind fun v31 =>
    (fX7_init fu v28 v30 v31 M29).bind fun M32 =>
    (pG M32 11 709 (some a0) (some v28)).bind fun M33 =>
    b2 (mkA M33 100 (80 : Int32)) fun v34 M35 =>
    (pG M35 11 710 (some a0) (some v34)).bind fun M36 =>
    some M36
theorem dX11_init_0 : decode cX11_init 0 = .ok (.aload_n 0, 1) := by decide +kernel
theorem dX11_init_1 : decode cX11_init 1 = .ok (.invokespecial 1, 3) := by decide +kernel
theorem dX11_init_4 : decode cX11_init 4 = .ok (.aload_n 0, 1) := by decide +kernel
theorem dX11_init_5 : decode cX11_init 5 = .ok (.new 7, 3) := by decide +kernel
theorem dX11_init_8 : decode cX11_init 8 = .ok (.dup, 1) := by decide +kernel
theorem dX11_init_9 : decode cX11_init 9 = .ok (.invokespecial 9, 3) := by decide +kernel
theorem dX11_init_12 : decode cX11_init 12 = .ok (.putfield 10, 3) := by decide +kernel
theorem dX11_init_15 : decode cX11_init 15 = .ok (.aload_n 0, 1) := by decide +kernel
theorem dX11_init_16 : decode cX11_init 16 = .ok (.new 16, 3) := by decide +kernel
theorem dX11_init_19 : decode cX11_init 19 = .ok (.dup, 1) := by decide +kernel
theorem dX11_init_20 : decode cX11_init 20 = .ok (.invokespecial 18, 3) := by decide +kernel
theorem dX11_init_23 : decode cX11_init 23 = .ok (.putfield 19, 3) := by decide +kernel
theorem dX11_init_26 : decode cX11_init 26 = .ok (.aload_n 0, 1) := by decide +kernel
theorem dX11_init_27 : decode cX11_init 27 = .ok (.new 23, 3) := by decide +kernel
theorem dX11_init_30 : decode cX11_init 30 = .ok (.dup, 1) := by decide +kernel
theorem dX11_init_31 : decode cX11_init 31 = .ok (.aload_n 0, 1) := by decide +kernel
theorem dX11_init_32 : decode cX11_init 32 = .ok (.getfield 19, 3) := by decide +kernel
theorem dX11_init_35 : decode cX11_init 35 = .ok (.invokespecial 25, 3) := by decide +kernel
theorem dX11_init_38 : decode cX11_init 38 = .ok (.putfield 28, 3) := by decide +kernel
theorem dX11_init_41 : decode cX11_init 41 = .ok (.aload_n 0, 1) := by decide +kernel
theorem dX11_init_42 : decode cX11_init 42 = .ok (.new 32, 3) := by decide +kernel
theorem dX11_init_45 : decode cX11_init 45 = .ok (.dup, 1) := by decide +kernel
theorem dX11_init_46 : decode cX11_init 46 = .ok (.aload_n 0, 1) := by decide +kernel
theorem dX11_init_47 : decode cX11_init 47 = .ok (.getfield 19, 3) := by decide +kernel
theorem dX11_init_50 : decode cX11_init 50 = .ok (.aload_n 0, 1) := by decide +kernel
theorem dX11_init_51 : decode cX11_init 51 = .ok (.getfield 28, 3) := by decide +kernel
theorem dX11_init_54 : decode cX11_init 54 = .ok (.invokespecial 34, 3) := by decide +kernel
theorem dX11_init_57 : decode cX11_init 57 = .ok (.putfield 37, 3) := by decide +kernel
theorem dX11_init_60 : decode cX11_init 60 = .ok (.aload_n 0, 1) := by decide +kernel
theorem dX11_init_61 : decode cX11_init 61 = .ok (.new 41, 3) := by decide +kernel
theorem dX11_init_64 : decode cX11_init 64 = .ok (.dup, 1) := by decide +kernel
theorem dX11_init_65 : decode cX11_init 65 = .ok (.aload_n 0, 1) := by decide +kernel
theorem dX11_init_66 : decode cX11_init 66 = .ok (.getfield 19, 3) := by decide +kernel
theorem dX11_init_69 : decode cX11_init 69 = .ok (.aload_n 0, 1) := by decide +kernel
theorem dX11_init_70 : decode cX11_init 70 = .ok (.getfield 28, 3) := by decide +kernel
theorem dX11_init_73 : decode cX11_init 73 = .ok (.aload_n 0, 1) := by decide +kernel
theorem dX11_init_74 : decode cX11_init 74 = .ok (.getfield 10, 3) := by decide +kernel
theorem dX11_init_77 : decode cX11_init 77 = .ok (.aload_n 0, 1) := by decide +kernel
theorem dX11_init_78 : decode cX11_init 78 = .ok (.getfield 37, 3) := by decide +kernel
theorem dX11_init_81 : decode cX11_init 81 = .ok (.invokespecial 43, 3) := by decide +kernel
theorem dX11_init_84 : decode cX11_init 84 = .ok (.putfield 46, 3) := by decide +kernel
theorem dX11_init_87 : decode cX11_init 87 = .ok (.aload_n 0, 1) := by decide +kernel
theorem dX11_init_88 : decode cX11_init 88 = .ok (.new 50, 3) := by decide +kernel
theorem dX11_init_91 : decode cX11_init 91 = .ok (.dup, 1) := by decide +kernel
theorem dX11_init_92 : decode cX11_init 92 = .ok (.aload_n 0, 1) := by decide +kernel
theorem dX11_init_93 : decode cX11_init 93 = .ok (.getfield 10, 3) := by decide +kernel
theorem dX11_init_96 : decode cX11_init 96 = .ok (.aload_n 0, 1) := by decide +kernel
theorem dX11_init_97 : decode cX11_init 97 = .ok (.getfield 19, 3) := by decide +kernel
theorem dX11_init_100 : decode cX11_init 100 = .ok (.invokespecial 52, 3) := by decide +kernel
theorem dX11_init_103 : decode cX11_init 103 = .ok (.putfield 55, 3) := by decide +kernel
theorem dX11_init_106 : decode cX11_init 106 = .ok (.aload_n 0, 1) := by decide +kernel
theorem dX11_init_107 : decode cX11_init 107 = .ok (.bipush 80, 2) := by decide +kernel
theorem dX11_init_109 : decode cX11_init 109 = .ok (.newarray .byte, 2) := by decide +kernel
theorem dX11_init_111 : decode cX11_init 111 = .ok (.putfield 59, 3) := by decide +kernel
theorem dX11_init_114 : decode cX11_init 114 = .ok (.return_, 1) := by decide +kernel
theorem wX11_init {x : GX} {n0 sl0 : Nat} (X : Cx x cX11_init RX11 none n0 sl0 2 36) {out : Mm} (hE : Ends x n0 sl0 none out) (hn : xn x = 1) (hin : (xt x).name = "<init>") (fu : Nat)   (a0 : Nat)  (M : Mm) (h : fX11_init fu  a0 M = some out) : Gw x M 0 [(0, pR (some a0))] [] := by
  unfold fX11_init at h
  refine g_aload_n X (pc := 0) 0 rfl rfl dX11_init_0 ?_
  refine g_objInit X (pc := 1) (o := (some a0)) ⟨_, rfl⟩ tb_31 tb_32 tb_33 ⟨by decide, Nat.le_of_ble_eq_true rfl⟩ dX11_init_1 ?_
  refine g_aload_n X (pc := 4) 0 rfl rfl dX11_init_4 ?_
  obtain ⟨v1, M2, eM2, h⟩ := b2d h
  refine g_new X (pc := 5) fk_8_0 dvX8 eM2 tb_34 tb_35 tb_2 dX11_init_5 ?_
  refine g_dup X (pc := 8) rfl dX11_init_8 ?_
  obtain ⟨M3, eM3, h⟩ := bd h
  refine g_callI X (pc := 9) (M' := M3) (as := []) (as' := []) (st := [pR (some v1), pR (some a0)]) (ctX8_init _ _ _ _ _ _ fu v1  M2 _ eM3) tb_38 tb_36 tb_37 tb_2 rfl hyX8_init rfl rfl ⟨by decide, by decide⟩ (Nat.le_of_ble_eq_true rfl) dX11_init_9 ?_
  obtain ⟨M4, eM4, h⟩ := bd h
  refine g_putG X (pc := 12) fk_11_0 rfl rfl rfl eM4 tb_314 (Or.inr ⟨rfl, hin, rfl⟩) dX11_init_12 ?_
  refine g_aload_n X (pc := 15) 0 rfl rfl dX11_init_15 ?_
  obtain ⟨v5, M6, eM6, h⟩ := b2d h
  refine g_new X (pc := 16) fk_10_0 dvX10 eM6 tb_54 tb_55 tb_3 dX11_init_16 ?_
  refine g_dup X (pc := 19) rfl dX11_init_19 ?_
  obtain ⟨M7, eM7, h⟩ := bd h
  refine g_callI X (pc := 20) (M' := M7) (as := []) (as' := []) (st := [pR (some v5), pR (some a0)]) (ctX10_init _ _ _ _ _ _ fu v5  M6 _ eM7) tb_58 tb_56 tb_57 tb_3 rfl hyX10_init rfl rfl ⟨by decide, by decide⟩ (Nat.le_of_ble_eq_true rfl) dX11_init_20 ?_
  obtain ⟨M8, eM8, h⟩ := bd h
  refine g_putG X (pc := 23) fk_11_1 rfl rfl rfl eM8 tb_315 (Or.inr ⟨rfl, hin, rfl⟩) dX11_init_23 ?_
  refine g_aload_n X (pc := 26) 0 rfl rfl dX11_init_26 ?_
  obtain ⟨v9, M10, eM10, h⟩ := b2d h
  refine g_new X (pc := 27) fk_4_0 dvX4 eM10 tb_90 tb_91 tb_4 dX11_init_27 ?_
  refine g_dup X (pc := 30) rfl dX11_init_30 ?_
  refine g_aload_n X (pc := 31) 0 rfl rfl dX11_init_31 ?_
  obtain ⟨v11, ev11, h⟩ := bd h
  refine g_getR X (pc := 32) fk_11_1 rfl rfl ev11 tb_315 dX11_init_32 ?_
  obtain ⟨M12, eM12, h⟩ := bd h
  refine g_callI X (pc := 35) (M' := M12) (as := [pR v11]) (as' := [pR v11]) (st := [pR (some v9), pR (some a0)]) (ctX4_init _ _ _ _ _ _ fu v9 v11 M10 _ eM12) tb_94 tb_92 tb_93 tb_4 rfl hyX4_init rfl rfl ⟨by decide, by decide⟩ (Nat.le_of_ble_eq_true rfl) dX11_init_35 ?_
  obtain ⟨M13, eM13, h⟩ := bd h
  refine g_putG X (pc := 38) fk_11_2 rfl rfl rfl eM13 tb_316 (Or.inr ⟨rfl, hin, rfl⟩) dX11_init_38 ?_
  refine g_aload_n X (pc := 41) 0 rfl rfl dX11_init_41 ?_
  obtain ⟨v14, M15, eM15, h⟩ := b2d h
  refine g_new X (pc := 42) fk_3_0 dvX3 eM15 tb_150 tb_151 tb_5 dX11_init_42 ?_
  refine g_dup X (pc := 45) rfl dX11_init_45 ?_
  refine g_aload_n X (pc := 46) 0 rfl rfl dX11_init_46 ?_
  obtain ⟨v16, ev16, h⟩ := bd h
  refine g_getR X (pc := 47) fk_11_1 rfl rfl ev16 tb_315 dX11_init_47 ?_
  refine g_aload_n X (pc := 50) 0 rfl rfl dX11_init_50 ?_
  obtain ⟨v17, ev17, h⟩ := bd h
  refine g_getR X (pc := 51) fk_11_2 rfl rfl ev17 tb_316 dX11_init_51 ?_
  obtain ⟨M18, eM18, h⟩ := bd h
  refine g_callI X (pc := 54) (M' := M18) (as := [pR v16, pR v17]) (as' := [pR v17, pR v16]) (st := [pR (some v14), pR (some a0)]) (ctX3_init _ _ _ _ _ _ fu v14 v16 v17 M15 _ eM18) tb_154 tb_152 tb_153 tb_5 rfl hyX3_init rfl rfl ⟨by decide, by decide⟩ (Nat.le_of_ble_eq_true rfl) dX11_init_54 ?_
  obtain ⟨M19, eM19, h⟩ := bd h
  refine g_putG X (pc := 57) fk_11_3 rfl rfl rfl eM19 tb_317 (Or.inr ⟨rfl, hin, rfl⟩) dX11_init_57 ?_
  refine g_aload_n X (pc := 60) 0 rfl rfl dX11_init_60 ?_
  obtain ⟨v20, M21, eM21, h⟩ := b2d h
  refine g_new X (pc := 61) fk_9_0 dvX9 eM21 tb_226 tb_227 tb_6 dX11_init_61 ?_
  refine g_dup X (pc := 64) rfl dX11_init_64 ?_
  refine g_aload_n X (pc := 65) 0 rfl rfl dX11_init_65 ?_
  obtain ⟨v22, ev22, h⟩ := bd h
  refine g_getR X (pc := 66) fk_11_1 rfl rfl ev22 tb_315 dX11_init_66 ?_
  refine g_aload_n X (pc := 69) 0 rfl rfl dX11_init_69 ?_
  obtain ⟨v23, ev23, h⟩ := bd h
  refine g_getR X (pc := 70) fk_11_2 rfl rfl ev23 tb_316 dX11_init_70 ?_
  refine g_aload_n X (pc := 73) 0 rfl rfl dX11_init_73 ?_
  obtain ⟨v24, ev24, h⟩ := bd h
  refine g_getR X (pc := 74) fk_11_0 rfl rfl ev24 tb_314 dX11_init_74 ?_
  refine g_aload_n X (pc := 77) 0 rfl rfl dX11_init_77 ?_
  obtain ⟨v25, ev25, h⟩ := bd h
  refine g_getR X (pc := 78) fk_11_3 rfl rfl ev25 tb_317 dX11_init_78 ?_
  obtain ⟨M26, eM26, h⟩ := bd h
  refine g_callI X (pc := 81) (M' := M26) (as := [pR v22, pR v23, pR v24, pR v25]) (as' := [pR v25, pR v24, pR v23, pR v22]) (st := [pR (some v20), pR (some a0)]) (ctX9_init _ _ _ _ _ _ fu v20 v22 v23 v24 v25 M21 _ eM26) tb_230 tb_228 tb_229 tb_6 rfl hyX9_init rfl rfl ⟨by decide, by decide⟩ (Nat.le_of_ble_eq_true rfl) dX11_init_81 ?_
  obtain ⟨M27, eM27, h⟩ := bd h
  refine g_putG X (pc := 84) fk_11_4 rfl rfl rfl eM27 tb_318 (Or.inr ⟨rfl, hin, rfl⟩) dX11_init_84 ?_
  refine g_aload_n X (pc := 87) 0 rfl rfl dX11_init_87 ?_
  obtain ⟨v28, M29, eM29, h⟩ := b2d h
  refine g_new X (pc := 88) fk_7_0 dvX7 eM29 tb_250 tb_251 tb_7 dX11_init_88 ?_
  refine g_dup X (pc := 91) rfl dX11_init_91 ?_
  refine g_aload_n X (pc := 92) 0 rfl rfl dX11_init_92 ?_
  obtain ⟨v30, ev30, h⟩ := bd h
  refine g_getR X (pc := 93) fk_11_0 rfl rfl ev30 tb_314 dX11_init_93 ?_
  refine g_aload_n X (pc := 96) 0 rfl rfl dX11_init_96 ?_
  obtain ⟨v31, ev31, h⟩ := bd h
  refine g_getR X (pc := 97) fk_11_1 rfl rfl ev31 tb_315 dX11_init_97 ?_
  obtain ⟨M32, eM32, h⟩ := bd h
  refine g_callI X (pc := 100) (M' := M32) (as := [pR v30, pR v31]) (as' := [pR v31, pR v30]) (st := [pR (some v28), pR (some a0)]) (ctX7_init _ _ _ _ _ _ fu v28 v30 v31 M29 _ eM32) tb_254 tb_252 tb_253 tb_7 rfl hyX7_init rfl rfl ⟨by decide, by decide⟩ (Nat.le_of_ble_eq_true rfl) dX11_init_100 ?_
  obtain ⟨M33, eM33, h⟩ := bd h
  refine g_putG X (pc := 103) fk_11_5 rfl rfl rfl eM33 tb_319 (Or.inr ⟨rfl, hin, rfl⟩) dX11_init_103 ?_
  refine g_aload_n X (pc := 106) 0 rfl rfl dX11_init_106 ?_
  refine g_bipush X (pc := 107) (v := 80) dX11_init_107 (by decide) ?_
  obtain ⟨v34, M35, eM35, h⟩ := b2d h
  refine g_newarray X (pc := 109) (at9 := .byte) (k := 0) rfl (by decide) rfl (by decide) (fun _ _ q => q) tb_53 eM35 dX11_init_109 ?_
  obtain ⟨M36, eM36, h⟩ := bd h
  refine g_putG X (pc := 111) fk_11_6 rfl rfl rfl eM36 tb_320 (Or.inl rfl) dX11_init_111 ?_
  obtain rfl := Option.some.inj h
  exact g_return X hE dX11_init_114
theorem hyX11_init : yX11_init.cls ≠ "java/lang/invoke/MethodHandle" ∧ yX11_init.cls ≠ "java/lang/invoke/VarHandle" ∧ (parseMethodDescriptor yX11_init.desc).map (fun d => d.parameters.length) = some 0 := ⟨by decide +kernel, by decide +kernel, by decide +kernel⟩
theorem ctX11_init (l : Launch) (E : Nat → Nat) (D : va_G) (dA : Nat → ClassId) (lo : Nat) (H0 : Heap) (fu : Nat) (a0 : Nat) (M : Mm) (out : Mm) (h : fX11_init fu a0 M = some out) : Ct l E D dA lo H0 yX11_init cX11_init 1 none 2 36 [pR (some a0)] M none out := by
  refine ct_of (by decide +kernel) (Nat.le_of_ble_eq_true rfl) ?_
  intro x hl he hd ha ho hh hn hin X hE
  exact wX11_init X hE hn hin fu a0 M h
/-! WebHost.end(I)I -/
def fX11_end (fu : Nat)  (a0 : Nat) (a1 : Int32)  (M : Mm) : Option (Int32 × Mm) :=
    if a1 < 0 then (
    some ((-1 : Int32), M))
    else (
    (gI M 11 711 (some a0)).bind fun v1 =>
    if a1 ≤ v1 then (
    (pF M 11 711 (some a0) a1).bind fun M2 =>
    some (a1, M2))
    else (
    some ((-1 : Int32), M)))
theorem dX11_end_0 : decode cX11_end 0 = .ok (.iload_n 1, 1) := by decide +kernel
theorem dX11_end_1 : decode cX11_end 1 = .ok (.ifCond .lt 11, 3) := by decide +kernel
theorem dX11_end_4 : decode cX11_end 4 = .ok (.iload_n 1, 1) := by decide +kernel
theorem dX11_end_5 : decode cX11_end 5 = .ok (.aload_n 0, 1) := by decide +kernel
theorem dX11_end_6 : decode cX11_end 6 = .ok (.getfield 63, 3) := by decide +kernel
theorem dX11_end_9 : decode cX11_end 9 = .ok (.if_icmp .le 5, 3) := by decide +kernel
theorem dX11_end_12 : decode cX11_end 12 = .ok (.iconst (-1), 1) := by decide +kernel
theorem dX11_end_13 : decode cX11_end 13 = .ok (.ireturn, 1) := by decide +kernel
theorem dX11_end_14 : decode cX11_end 14 = .ok (.aload_n 0, 1) := by decide +kernel
theorem dX11_end_15 : decode cX11_end 15 = .ok (.iload_n 1, 1) := by decide +kernel
theorem dX11_end_16 : decode cX11_end 16 = .ok (.putfield 63, 3) := by decide +kernel
theorem dX11_end_19 : decode cX11_end 19 = .ok (.iload_n 1, 1) := by decide +kernel
theorem dX11_end_20 : decode cX11_end 20 = .ok (.ireturn, 1) := by decide +kernel
theorem wX11_end {x : GX} {n0 sl0 : Nat} (X : Cx x cX11_end RX11 (some .int) n0 sl0 0 0) {out : Int32 × Mm} (hE : Ends x n0 sl0 (some (pI out.1)) out.2) (hn : xn x = 2) (fu : Nat)   (a0 : Nat) (a1 : Int32)  (M : Mm) (h : fX11_end fu  a0 a1 M = some out) : Gw x M 0 [(0, pR (some a0)), (1, pI a1)] [] := by
  unfold fX11_end at h
  refine g_iload_n X (pc := 0) 1 rfl rfl dX11_end_0 ?_
  refine g_if_lt X (pc := 1) (tgt := 12) dX11_end_1 (by decide) (fun hc => ?_) (fun hc => ?_)
  · have h := (if_pos hc).symm.trans h
    refine g_iconst X (pc := 12) (v := (-1)) dX11_end_12 (by decide) ?_
    obtain rfl := Option.some.inj h
    exact g_ireturn X hE dX11_end_13
  · have h := (if_neg hc).symm.trans h
    refine g_iload_n X (pc := 4) 1 rfl rfl dX11_end_4 ?_
    refine g_aload_n X (pc := 5) 0 rfl rfl dX11_end_5 ?_
    obtain ⟨v1, ev1, h⟩ := bd h
    refine g_getI X (pc := 6) fk_11_7 rfl rfl ev1 tb_321 dX11_end_6 ?_
    refine g_icmp_le X (pc := 9) (tgt := 14) dX11_end_9 (by decide) (fun hc => ?_) (fun hc => ?_)
    · have h := (if_pos hc).symm.trans h
      refine g_aload_n X (pc := 14) 0 rfl rfl dX11_end_14 ?_
      refine g_iload_n X (pc := 15) 1 rfl rfl dX11_end_15 ?_
      obtain ⟨M2, eM2, h⟩ := bd h
      refine g_putI X (pc := 16) fk_11_7 rfl rfl rfl eM2 tb_321 (Or.inl rfl) dX11_end_16 ?_
      refine g_iload_n X (pc := 19) 1 rfl rfl dX11_end_19 ?_
      obtain rfl := Option.some.inj h
      exact g_ireturn X hE dX11_end_20
    · have h := (if_neg hc).symm.trans h
      refine g_iconst X (pc := 12) (v := (-1)) dX11_end_12 (by decide) ?_
      obtain rfl := Option.some.inj h
      exact g_ireturn X hE dX11_end_13
theorem hyX11_end : yX11_end.cls ≠ "java/lang/invoke/MethodHandle" ∧ yX11_end.cls ≠ "java/lang/invoke/VarHandle" ∧ (parseMethodDescriptor yX11_end.desc).map (fun d => d.parameters.length) = some 1 := ⟨by decide +kernel, by decide +kernel, by decide +kernel⟩
theorem ctX11_end (l : Launch) (E : Nat → Nat) (D : va_G) (dA : Nat → ClassId) (lo : Nat) (H0 : Heap) (fu : Nat) (a0 : Nat) (a1 : Int32) (M : Mm) (out : Int32 × Mm) (h : fX11_end fu a0 a1 M = some out) : Ct l E D dA lo H0 yX11_end cX11_end 2 (some .int) 0 0 [pR (some a0), pI a1] M (some (pI out.1)) out.2 := by
  refine ct_of (by decide +kernel) (Nat.le_of_ble_eq_true rfl) ?_
  intro x hl he hd ha ho hh hn hin X hE
  exact wX11_end X hE hn fu a0 a1 M h
/-! WebHost.refusal(I)I -/
def fX11_refusal (fu : Nat)  (a0 : Nat) (a1 : Int32)  (M : Mm) : Option (Int32 × Mm) :=
    (gI M 11 712 (some a0)).bind fun v1 =>
    if v1 = 0 then (
    some ((-1 : Int32), M))
    else (
    (gR M 11 705 (some a0)).bind fun v2 =>
    (gI M 10 641 v2).bind fun v3 =>
    if a1 < v3 then (
    some ((-2 : Int32), M))
    else (
    if (2000000000 : Int32) < a1 then (
    some ((-2 : Int32), M))
    else (
    (gR M 11 705 (some a0)).bind fun v4 =>
    (gI M 10 641 v4).bind fun v5 =>
    if (a1 - v5) ≤ (600000 : Int32) then (
    some ((0 : Int32), M))
    else (
    some ((-2 : Int32), M)))))
theorem dX11_refusal_0 : decode cX11_refusal 0 = .ok (.aload_n 0, 1) := by decide +kernel
theorem dX11_refusal_1 : decode cX11_refusal 1 = .ok (.getfield 89, 3) := by decide +kernel
theorem dX11_refusal_4 : decode cX11_refusal 4 = .ok (.ifCond .ne 5, 3) := by decide +kernel
theorem dX11_refusal_7 : decode cX11_refusal 7 = .ok (.iconst (-1), 1) := by decide +kernel
theorem dX11_refusal_8 : decode cX11_refusal 8 = .ok (.ireturn, 1) := by decide +kernel
theorem dX11_refusal_9 : decode cX11_refusal 9 = .ok (.iload_n 1, 1) := by decide +kernel
theorem dX11_refusal_10 : decode cX11_refusal 10 = .ok (.aload_n 0, 1) := by decide +kernel
theorem dX11_refusal_11 : decode cX11_refusal 11 = .ok (.getfield 19, 3) := by decide +kernel
theorem dX11_refusal_14 : decode cX11_refusal 14 = .ok (.getfield 154, 3) := by decide +kernel
theorem dX11_refusal_17 : decode cX11_refusal 17 = .ok (.if_icmp .lt 23, 3) := by decide +kernel
theorem dX11_refusal_20 : decode cX11_refusal 20 = .ok (.iload_n 1, 1) := by decide +kernel
theorem dX11_refusal_21 : decode cX11_refusal 21 = .ok (.ldc 203, 2) := by decide +kernel
theorem dX11_refusal_23 : decode cX11_refusal 23 = .ok (.if_icmp .gt 17, 3) := by decide +kernel
theorem dX11_refusal_26 : decode cX11_refusal 26 = .ok (.iload_n 1, 1) := by decide +kernel
theorem dX11_refusal_27 : decode cX11_refusal 27 = .ok (.aload_n 0, 1) := by decide +kernel
theorem dX11_refusal_28 : decode cX11_refusal 28 = .ok (.getfield 19, 3) := by decide +kernel
theorem dX11_refusal_31 : decode cX11_refusal 31 = .ok (.getfield 154, 3) := by decide +kernel
theorem dX11_refusal_34 : decode cX11_refusal 34 = .ok (.isub, 1) := by decide +kernel
theorem dX11_refusal_35 : decode cX11_refusal 35 = .ok (.ldc 204, 2) := by decide +kernel
theorem dX11_refusal_37 : decode cX11_refusal 37 = .ok (.if_icmp .le 6, 3) := by decide +kernel
theorem dX11_refusal_40 : decode cX11_refusal 40 = .ok (.bipush (-2), 2) := by decide +kernel
theorem dX11_refusal_42 : decode cX11_refusal 42 = .ok (.ireturn, 1) := by decide +kernel
theorem dX11_refusal_43 : decode cX11_refusal 43 = .ok (.iconst 0, 1) := by decide +kernel
theorem dX11_refusal_44 : decode cX11_refusal 44 = .ok (.ireturn, 1) := by decide +kernel
theorem wX11_refusal {x : GX} {n0 sl0 : Nat} (X : Cx x cX11_refusal RX11 (some .int) n0 sl0 0 0) {out : Int32 × Mm} (hE : Ends x n0 sl0 (some (pI out.1)) out.2) (hn : xn x = 2) (fu : Nat)   (a0 : Nat) (a1 : Int32)  (M : Mm) (h : fX11_refusal fu  a0 a1 M = some out) : Gw x M 0 [(0, pR (some a0)), (1, pI a1)] [] := by
  unfold fX11_refusal at h
  refine g_aload_n X (pc := 0) 0 rfl rfl dX11_refusal_0 ?_
  obtain ⟨v1, ev1, h⟩ := bd h
  refine g_getI X (pc := 1) fk_11_8 rfl rfl ev1 tb_322 dX11_refusal_1 ?_
  refine g_if_ne X (pc := 4) (tgt := 9) dX11_refusal_4 (by decide) (fun hc => ?_) (fun hc => ?_)
  · have h := (if_neg hc).symm.trans h
    refine g_iload_n X (pc := 9) 1 rfl rfl dX11_refusal_9 ?_
    refine g_aload_n X (pc := 10) 0 rfl rfl dX11_refusal_10 ?_
    obtain ⟨v2, ev2, h⟩ := bd h
    refine g_getR X (pc := 11) fk_11_1 rfl rfl ev2 tb_315 dX11_refusal_11 ?_
    obtain ⟨v3, ev3, h⟩ := bd h
    refine g_getI X (pc := 14) fk_10_1 rfl rfl ev3 tb_70 dX11_refusal_14 ?_
    refine g_icmp_lt X (pc := 17) (tgt := 40) dX11_refusal_17 (by decide) (fun hc => ?_) (fun hc => ?_)
    · have h := (if_pos hc).symm.trans h
      refine g_bipush X (pc := 40) (v := (-2)) dX11_refusal_40 (by decide) ?_
      obtain rfl := Option.some.inj h
      exact g_ireturn X hE dX11_refusal_42
    · have h := (if_neg hc).symm.trans h
      refine g_iload_n X (pc := 20) 1 rfl rfl dX11_refusal_20 ?_
      refine g_ldc X (pc := 21) tb_462 dX11_refusal_21 ?_
      refine g_icmp_gt X (pc := 23) (tgt := 40) dX11_refusal_23 (by decide) (fun hc => ?_) (fun hc => ?_)
      · have h := (if_pos hc).symm.trans h
        refine g_bipush X (pc := 40) (v := (-2)) dX11_refusal_40 (by decide) ?_
        obtain rfl := Option.some.inj h
        exact g_ireturn X hE dX11_refusal_42
      · have h := (if_neg hc).symm.trans h
        refine g_iload_n X (pc := 26) 1 rfl rfl dX11_refusal_26 ?_
        refine g_aload_n X (pc := 27) 0 rfl rfl dX11_refusal_27 ?_
        obtain ⟨v4, ev4, h⟩ := bd h
        refine g_getR X (pc := 28) fk_11_1 rfl rfl ev4 tb_315 dX11_refusal_28 ?_
        obtain ⟨v5, ev5, h⟩ := bd h
        refine g_getI X (pc := 31) fk_10_1 rfl rfl ev5 tb_70 dX11_refusal_31 ?_
        refine g_isub X (pc := 34) dX11_refusal_34 ?_
        refine g_ldc X (pc := 35) tb_463 dX11_refusal_35 ?_
        refine g_icmp_le X (pc := 37) (tgt := 43) dX11_refusal_37 (by decide) (fun hc => ?_) (fun hc => ?_)
        · have h := (if_pos hc).symm.trans h
          refine g_iconst X (pc := 43) (v := 0) dX11_refusal_43 (by decide) ?_
          obtain rfl := Option.some.inj h
          exact g_ireturn X hE dX11_refusal_44
        · have h := (if_neg hc).symm.trans h
          refine g_bipush X (pc := 40) (v := (-2)) dX11_refusal_40 (by decide) ?_
          obtain rfl := Option.some.inj h
          exact g_ireturn X hE dX11_refusal_42
  · have h := (if_pos hc).symm.trans h
    refine g_iconst X (pc := 7) (v := (-1)) dX11_refusal_7 (by decide) ?_
    obtain rfl := Option.some.inj h
    exact g_ireturn X hE dX11_refusal_8
theorem hyX11_refusal : yX11_refusal.cls ≠ "java/lang/invoke/MethodHandle" ∧ yX11_refusal.cls ≠ "java/lang/invoke/VarHandle" ∧ (parseMethodDescriptor yX11_refusal.desc).map (fun d => d.parameters.length) = some 1 := ⟨by decide +kernel, by decide +kernel, by decide +kernel⟩
theorem ctX11_refusal (l : Launch) (E : Nat → Nat) (D : va_G) (dA : Nat → ClassId) (lo : Nat) (H0 : Heap) (fu : Nat) (a0 : Nat) (a1 : Int32) (M : Mm) (out : Int32 × Mm) (h : fX11_refusal fu a0 a1 M = some out) : Ct l E D dA lo H0 yX11_refusal cX11_refusal 2 (some .int) 0 0 [pR (some a0), pI a1] M (some (pI out.1)) out.2 := by
  refine ct_of (by decide +kernel) (Nat.le_of_ble_eq_true rfl) ?_
  intro x hl he hd ha ho hh hn hin X hE
  exact wX11_refusal X hE hn fu a0 a1 M h
/-! WebHost.now()I -/
def fX11_now (fu : Nat)  (a0 : Nat)  (M : Mm) : Option (Int32 × Mm) :=
    (gI M 11 712 (some a0)).bind fun v1 =>
    if v1 = 0 then (
    some ((-1 : Int32), M))
    else (
    (gR M 11 705 (some a0)).bind fun v2 =>
    (gI M 10 641 v2).bind fun v3 =>
    some (v3, M))
theorem dX11_now_0 : decode cX11_now 0 = .ok (.aload_n 0, 1) := by decide +kernel
theorem dX11_now_1 : decode cX11_now 1 = .ok (.getfield 89, 3) := by decide +kernel
theorem dX11_now_4 : decode cX11_now 4 = .ok (.ifCond .eq 13, 3) := by decide +kernel
theorem dX11_now_7 : decode cX11_now 7 = .ok (.aload_n 0, 1) := by decide +kernel
theorem dX11_now_8 : decode cX11_now 8 = .ok (.getfield 19, 3) := by decide +kernel
theorem dX11_now_11 : decode cX11_now 11 = .ok (.getfield 154, 3) := by decide +kernel
theorem dX11_now_14 : decode cX11_now 14 = .ok (.goto 4, 3) := by decide +kernel
theorem dX11_now_17 : decode cX11_now 17 = .ok (.iconst (-1), 1) := by decide +kernel
theorem dX11_now_18 : decode cX11_now 18 = .ok (.ireturn, 1) := by decide +kernel
theorem wX11_now {x : GX} {n0 sl0 : Nat} (X : Cx x cX11_now RX11 (some .int) n0 sl0 0 0) {out : Int32 × Mm} (hE : Ends x n0 sl0 (some (pI out.1)) out.2) (hn : xn x = 1) (fu : Nat)   (a0 : Nat)  (M : Mm) (h : fX11_now fu  a0 M = some out) : Gw x M 0 [(0, pR (some a0))] [] := by
  unfold fX11_now at h
  refine g_aload_n X (pc := 0) 0 rfl rfl dX11_now_0 ?_
  obtain ⟨v1, ev1, h⟩ := bd h
  refine g_getI X (pc := 1) fk_11_8 rfl rfl ev1 tb_322 dX11_now_1 ?_
  refine g_if_eq X (pc := 4) (tgt := 17) dX11_now_4 (by decide) (fun hc => ?_) (fun hc => ?_)
  · have h := (if_pos hc).symm.trans h
    refine g_iconst X (pc := 17) (v := (-1)) dX11_now_17 (by decide) ?_
    obtain rfl := Option.some.inj h
    exact g_ireturn X hE dX11_now_18
  · have h := (if_neg hc).symm.trans h
    refine g_aload_n X (pc := 7) 0 rfl rfl dX11_now_7 ?_
    obtain ⟨v2, ev2, h⟩ := bd h
    refine g_getR X (pc := 8) fk_11_1 rfl rfl ev2 tb_315 dX11_now_8 ?_
    obtain ⟨v3, ev3, h⟩ := bd h
    refine g_getI X (pc := 11) fk_10_1 rfl rfl ev3 tb_70 dX11_now_11 ?_
    refine g_goto X (pc := 14) (tgt := 18) dX11_now_14 (by decide) ?_
    obtain rfl := Option.some.inj h
    exact g_ireturn X hE dX11_now_18
theorem hyX11_now : yX11_now.cls ≠ "java/lang/invoke/MethodHandle" ∧ yX11_now.cls ≠ "java/lang/invoke/VarHandle" ∧ (parseMethodDescriptor yX11_now.desc).map (fun d => d.parameters.length) = some 0 := ⟨by decide +kernel, by decide +kernel, by decide +kernel⟩
theorem ctX11_now (l : Launch) (E : Nat → Nat) (D : va_G) (dA : Nat → ClassId) (lo : Nat) (H0 : Heap) (fu : Nat) (a0 : Nat) (M : Mm) (out : Int32 × Mm) (h : fX11_now fu a0 M = some out) : Ct l E D dA lo H0 yX11_now cX11_now 1 (some .int) 0 0 [pR (some a0)] M (some (pI out.1)) out.2 := by
  refine ct_of (by decide +kernel) (Nat.le_of_ble_eq_true rfl) ?_
  intro x hl he hd ha ho hh hn hin X hE
  exact wX11_now X hE hn fu a0 M h
/-! WebHost.sent()I -/
def fX11_sent (fu : Nat)  (a0 : Nat)  (M : Mm) : Option (Int32 × Mm) :=
    (gI M 11 712 (some a0)).bind fun v1 =>
    if v1 = 0 then (
    some ((-1 : Int32), M))
    else (
    (gR M 11 705 (some a0)).bind fun v2 =>
    (gI M 10 642 v2).bind fun v3 =>
    some (v3, M))
theorem dX11_sent_0 : decode cX11_sent 0 = .ok (.aload_n 0, 1) := by decide +kernel
theorem dX11_sent_1 : decode cX11_sent 1 = .ok (.getfield 89, 3) := by decide +kernel
theorem dX11_sent_4 : decode cX11_sent 4 = .ok (.ifCond .eq 13, 3) := by decide +kernel
theorem dX11_sent_7 : decode cX11_sent 7 = .ok (.aload_n 0, 1) := by decide +kernel
theorem dX11_sent_8 : decode cX11_sent 8 = .ok (.getfield 19, 3) := by decide +kernel
theorem dX11_sent_11 : decode cX11_sent 11 = .ok (.getfield 119, 3) := by decide +kernel
theorem dX11_sent_14 : decode cX11_sent 14 = .ok (.goto 4, 3) := by decide +kernel
theorem dX11_sent_17 : decode cX11_sent 17 = .ok (.iconst (-1), 1) := by decide +kernel
theorem dX11_sent_18 : decode cX11_sent 18 = .ok (.ireturn, 1) := by decide +kernel
theorem wX11_sent {x : GX} {n0 sl0 : Nat} (X : Cx x cX11_sent RX11 (some .int) n0 sl0 0 0) {out : Int32 × Mm} (hE : Ends x n0 sl0 (some (pI out.1)) out.2) (hn : xn x = 1) (fu : Nat)   (a0 : Nat)  (M : Mm) (h : fX11_sent fu  a0 M = some out) : Gw x M 0 [(0, pR (some a0))] [] := by
  unfold fX11_sent at h
  refine g_aload_n X (pc := 0) 0 rfl rfl dX11_sent_0 ?_
  obtain ⟨v1, ev1, h⟩ := bd h
  refine g_getI X (pc := 1) fk_11_8 rfl rfl ev1 tb_322 dX11_sent_1 ?_
  refine g_if_eq X (pc := 4) (tgt := 17) dX11_sent_4 (by decide) (fun hc => ?_) (fun hc => ?_)
  · have h := (if_pos hc).symm.trans h
    refine g_iconst X (pc := 17) (v := (-1)) dX11_sent_17 (by decide) ?_
    obtain rfl := Option.some.inj h
    exact g_ireturn X hE dX11_sent_18
  · have h := (if_neg hc).symm.trans h
    refine g_aload_n X (pc := 7) 0 rfl rfl dX11_sent_7 ?_
    obtain ⟨v2, ev2, h⟩ := bd h
    refine g_getR X (pc := 8) fk_11_1 rfl rfl ev2 tb_315 dX11_sent_8 ?_
    obtain ⟨v3, ev3, h⟩ := bd h
    refine g_getI X (pc := 11) fk_10_2 rfl rfl ev3 tb_73 dX11_sent_11 ?_
    refine g_goto X (pc := 14) (tgt := 18) dX11_sent_14 (by decide) ?_
    obtain rfl := Option.some.inj h
    exact g_ireturn X hE dX11_sent_18
theorem hyX11_sent : yX11_sent.cls ≠ "java/lang/invoke/MethodHandle" ∧ yX11_sent.cls ≠ "java/lang/invoke/VarHandle" ∧ (parseMethodDescriptor yX11_sent.desc).map (fun d => d.parameters.length) = some 0 := ⟨by decide +kernel, by decide +kernel, by decide +kernel⟩
theorem ctX11_sent (l : Launch) (E : Nat → Nat) (D : va_G) (dA : Nat → ClassId) (lo : Nat) (H0 : Heap) (fu : Nat) (a0 : Nat) (M : Mm) (out : Int32 × Mm) (h : fX11_sent fu a0 M = some out) : Ct l E D dA lo H0 yX11_sent cX11_sent 1 (some .int) 0 0 [pR (some a0)] M (some (pI out.1)) out.2 := by
  refine ct_of (by decide +kernel) (Nat.le_of_ble_eq_true rfl) ?_
  intro x hl he hd ha ho hh hn hin X hE
  exact wX11_sent X hE hn fu a0 M h
/-! WebHost.frameBack(I)LWebHost$Packet; -/
def fX11_frameBack (fu : Nat)  (a0 : Nat) (a1 : Int32)  (M : Mm) : Option (Option Nat × Mm) :=
    (gI M 11 712 (some a0)).bind fun v1 =>
    if v1 = 0 then (
    some (none, M))
    else (
    (gR M 11 705 (some a0)).bind fun v2 =>
    (rc M 10 v2).bind fun q3 =>
    b2 (fX10_back fu q3 a1 M) fun v5 M4 =>
    some (v5, M4))
theorem dX11_frameBack_0 : decode cX11_frameBack 0 = .ok (.aload_n 0, 1) := by decide +kernel
theorem dX11_frameBack_1 : decode cX11_frameBack 1 = .ok (.getfield 89, 3) := by decide +kernel
theorem dX11_frameBack_4 : decode cX11_frameBack 4 = .ok (.ifCond .eq 14, 3) := by decide +kernel
theorem dX11_frameBack_7 : decode cX11_frameBack 7 = .ok (.aload_n 0, 1) := by decide +kernel
theorem dX11_frameBack_8 : decode cX11_frameBack 8 = .ok (.getfield 19, 3) := by decide +kernel
theorem dX11_frameBack_11 : decode cX11_frameBack 11 = .ok (.iload_n 1, 1) := by decide +kernel
theorem dX11_frameBack_12 : decode cX11_frameBack 12 = .ok (.invokevirtual 239, 3) := by decide +kernel
theorem dX11_frameBack_15 : decode cX11_frameBack 15 = .ok (.goto 4, 3) := by decide +kernel
theorem dX11_frameBack_18 : decode cX11_frameBack 18 = .ok (.aconst_null, 1) := by decide +kernel
theorem dX11_frameBack_19 : decode cX11_frameBack 19 = .ok (.areturn, 1) := by decide +kernel
theorem wX11_frameBack {x : GX} {n0 sl0 : Nat} (X : Cx x cX11_frameBack RX11 (some (.object "WebHost$Packet")) n0 sl0 1 21) {out : Option Nat × Mm} (hE : Ends x n0 sl0 (some (pR out.1)) out.2) (hn : xn x = 2) (fu : Nat)   (a0 : Nat) (a1 : Int32)  (M : Mm) (h : fX11_frameBack fu  a0 a1 M = some out) : Gw x M 0 [(0, pR (some a0)), (1, pI a1)] [] := by
  unfold fX11_frameBack at h
  refine g_aload_n X (pc := 0) 0 rfl rfl dX11_frameBack_0 ?_
  obtain ⟨v1, ev1, h⟩ := bd h
  refine g_getI X (pc := 1) fk_11_8 rfl rfl ev1 tb_322 dX11_frameBack_1 ?_
  refine g_if_eq X (pc := 4) (tgt := 18) dX11_frameBack_4 (by decide) (fun hc => ?_) (fun hc => ?_)
  · have h := (if_pos hc).symm.trans h
    refine g_null X (pc := 18) dX11_frameBack_18 ?_
    obtain rfl := Option.some.inj h
    exact g_areturn X rfl (Or.inl ⟨_, rfl⟩) hE dX11_frameBack_19
  · have h := (if_neg hc).symm.trans h
    refine g_aload_n X (pc := 7) 0 rfl rfl dX11_frameBack_7 ?_
    obtain ⟨v2, ev2, h⟩ := bd h
    refine g_getR X (pc := 8) fk_11_1 rfl rfl ev2 tb_315 dX11_frameBack_8 ?_
    refine g_iload_n X (pc := 11) 1 rfl rfl dX11_frameBack_11 ?_
    obtain ⟨q3, eq3, h⟩ := bd h
    obtain ⟨v5, M4, eM4, h⟩ := b2d h
    refine g_callV X (pc := 12) (M' := M4) (ro := some (pR v5)) (c := 10) rfl (by decide) (as := [pI a1]) (as' := [pI a1]) (st := []) eq3 (ctX10_back _ _ _ _ _ _ fu q3 a1 M _ eM4) tb_1503 tb_1500 tb_1501 tb_1502 tb_3 ⟨rfl, hyX10_back⟩ rfl rfl ⟨by decide, by decide⟩ (Nat.le_of_ble_eq_true rfl) dX11_frameBack_12 ?_
    refine g_goto X (pc := 15) (tgt := 19) dX11_frameBack_15 (by decide) ?_
    obtain rfl := Option.some.inj h
    exact g_areturn X rfl (Or.inl ⟨_, rfl⟩) hE dX11_frameBack_19
theorem hyX11_frameBack : yX11_frameBack.cls ≠ "java/lang/invoke/MethodHandle" ∧ yX11_frameBack.cls ≠ "java/lang/invoke/VarHandle" ∧ (parseMethodDescriptor yX11_frameBack.desc).map (fun d => d.parameters.length) = some 1 := ⟨by decide +kernel, by decide +kernel, by decide +kernel⟩
theorem ctX11_frameBack (l : Launch) (E : Nat → Nat) (D : va_G) (dA : Nat → ClassId) (lo : Nat) (H0 : Heap) (fu : Nat) (a0 : Nat) (a1 : Int32) (M : Mm) (out : Option Nat × Mm) (h : fX11_frameBack fu a0 a1 M = some out) : Ct l E D dA lo H0 yX11_frameBack cX11_frameBack 2 (some (.object "WebHost$Packet")) 1 21 [pR (some a0), pI a1] M (some (pR out.1)) out.2 := by
  refine ct_of (by decide +kernel) (Nat.le_of_ble_eq_true rfl) ?_
  intro x hl he hd ha ho hh hn hin X hE
  exact wX11_frameBack X hE hn fu a0 a1 M h
/-! WebHost.length(I)I -/
def fX11_length (fu : Nat)  (a0 : Nat) (a1 : Int32)  (M : Mm) : Option (Int32 × Mm) :=
    (rc M 11 (some a0)).bind fun q1 =>
    b2 (fX11_frameBack fu q1 a1 M) fun v3 M2 =>
    if v3 = none then (
    some ((-1 : Int32), M2))
    else (
    (gI M2 6 385 v3).bind fun v4 =>
    some (v4, M2))
theorem dX11_length_0 : decode cX11_length 0 = .ok (.aload_n 0, 1) := by decide +kernel
theorem dX11_length_1 : decode cX11_length 1 = .ok (.iload_n 1, 1) := by decide +kernel
theorem dX11_length_2 : decode cX11_length 2 = .ok (.invokevirtual 157, 3) := by decide +kernel
theorem dX11_length_5 : decode cX11_length 5 = .ok (.astore_n 2, 1) := by decide +kernel
theorem dX11_length_6 : decode cX11_length 6 = .ok (.aload_n 2, 1) := by decide +kernel
theorem dX11_length_7 : decode cX11_length 7 = .ok (.ifnonnull 7, 3) := by decide +kernel
theorem dX11_length_10 : decode cX11_length 10 = .ok (.iconst (-1), 1) := by decide +kernel
theorem dX11_length_11 : decode cX11_length 11 = .ok (.goto 7, 3) := by decide +kernel
theorem dX11_length_14 : decode cX11_length 14 = .ok (.aload_n 2, 1) := by decide +kernel
theorem dX11_length_15 : decode cX11_length 15 = .ok (.getfield 161, 3) := by decide +kernel
theorem dX11_length_18 : decode cX11_length 18 = .ok (.ireturn, 1) := by decide +kernel
theorem wX11_length {x : GX} {n0 sl0 : Nat} (X : Cx x cX11_length RX11 (some .int) n0 sl0 2 42) {out : Int32 × Mm} (hE : Ends x n0 sl0 (some (pI out.1)) out.2) (hn : xn x = 3) (fu : Nat)   (a0 : Nat) (a1 : Int32)  (M : Mm) (h : fX11_length fu  a0 a1 M = some out) : Gw x M 0 [(0, pR (some a0)), (1, pI a1)] [] := by
  unfold fX11_length at h
  refine g_aload_n X (pc := 0) 0 rfl rfl dX11_length_0 ?_
  refine g_iload_n X (pc := 1) 1 rfl rfl dX11_length_1 ?_
  obtain ⟨q1, eq1, h⟩ := bd h
  obtain ⟨v3, M2, eM2, h⟩ := b2d h
  refine g_callV X (pc := 2) (M' := M2) (ro := some (pR v3)) (c := 11) rfl (by decide) (as := [pI a1]) (as' := [pI a1]) (st := []) eq1 (ctX11_frameBack _ _ _ _ _ _ fu q1 a1 M _ eM2) tb_1499 tb_1496 tb_1498 ts_61 tb_1 ⟨rfl, hyX11_frameBack⟩ rfl rfl ⟨by decide, by decide⟩ (Nat.le_of_ble_eq_true rfl) dX11_length_2 ?_
  refine g_astore_n X (pc := 5) [(2, pR v3), (0, pR (some a0)), (1, pI a1)] rfl (lt_n hn (by decide)) rfl dX11_length_5 ?_
  refine g_aload_n X (pc := 6) 0 rfl rfl dX11_length_6 ?_
  refine g_ifnonnull X (pc := 7) (tgt := 14) dX11_length_7 (by decide) (fun hc => ?_) (fun hc => ?_)
  · have h := (if_neg hc).symm.trans h
    refine g_aload_n X (pc := 14) 0 rfl rfl dX11_length_14 ?_
    obtain ⟨v4, ev4, h⟩ := bd h
    refine g_getI X (pc := 15) fk_6_1 rfl rfl ev4 tb_546 dX11_length_15 ?_
    obtain rfl := Option.some.inj h
    exact g_ireturn X hE dX11_length_18
  · have h := (if_pos hc).symm.trans h
    refine g_iconst X (pc := 10) (v := (-1)) dX11_length_10 (by decide) ?_
    refine g_goto X (pc := 11) (tgt := 18) dX11_length_11 (by decide) ?_
    obtain rfl := Option.some.inj h
    exact g_ireturn X hE dX11_length_18
theorem hyX11_length : yX11_length.cls ≠ "java/lang/invoke/MethodHandle" ∧ yX11_length.cls ≠ "java/lang/invoke/VarHandle" ∧ (parseMethodDescriptor yX11_length.desc).map (fun d => d.parameters.length) = some 1 := ⟨by decide +kernel, by decide +kernel, by decide +kernel⟩
theorem ctX11_length (l : Launch) (E : Nat → Nat) (D : va_G) (dA : Nat → ClassId) (lo : Nat) (H0 : Heap) (fu : Nat) (a0 : Nat) (a1 : Int32) (M : Mm) (out : Int32 × Mm) (h : fX11_length fu a0 a1 M = some out) : Ct l E D dA lo H0 yX11_length cX11_length 3 (some .int) 2 42 [pR (some a0), pI a1] M (some (pI out.1)) out.2 := by
  refine ct_of (by decide +kernel) (Nat.le_of_ble_eq_true rfl) ?_
  intro x hl he hd ha ho hh hn hin X hE
  exact wX11_length X hE hn fu a0 a1 M h
/-! WebHost.at(II)I -/
def fX11_at (fu : Nat)  (a0 : Nat) (a1 : Int32) (a2 : Int32)  (M : Mm) : Option (Int32 × Mm) :=
    (rc M 11 (some a0)).bind fun q1 =>
    b2 (fX11_frameBack fu q1 a1 M) fun v3 M2 =>
    if v3 = none then (
    some ((-1 : Int32), M2))
    else (
    if a2 < 0 then (
    some ((-1 : Int32), M2))
    else (
    (gI M2 6 385 v3).bind fun v4 =>
    if v4 ≤ a2 then (
    some ((-1 : Int32), M2))
    else (
    (gR M2 6 384 v3).bind fun v5 =>
    (aL M2 100 v5).bind fun v6 =>
    if a2 < v6 then (
    (gR M2 6 384 v3).bind fun v7 =>
    (gA M2 100 v7 a2).bind fun v8 =>
    some ((v8 &&& (255 : Int32)), M2))
    else (
    some ((-1 : Int32), M2)))))
theorem dX11_at_0 : decode cX11_at 0 = .ok (.aload_n 0, 1) := by decide +kernel
theorem dX11_at_1 : decode cX11_at 1 = .ok (.iload_n 1, 1) := by decide +kernel
theorem dX11_at_2 : decode cX11_at 2 = .ok (.invokevirtual 157, 3) := by decide +kernel
theorem dX11_at_5 : decode cX11_at 5 = .ok (.astore_n 3, 1) := by decide +kernel
theorem dX11_at_6 : decode cX11_at 6 = .ok (.aload_n 3, 1) := by decide +kernel
theorem dX11_at_7 : decode cX11_at 7 = .ok (.ifnull 24, 3) := by decide +kernel
theorem dX11_at_10 : decode cX11_at 10 = .ok (.iload_n 2, 1) := by decide +kernel
theorem dX11_at_11 : decode cX11_at 11 = .ok (.ifCond .lt 20, 3) := by decide +kernel
theorem dX11_at_14 : decode cX11_at 14 = .ok (.iload_n 2, 1) := by decide +kernel
theorem dX11_at_15 : decode cX11_at 15 = .ok (.aload_n 3, 1) := by decide +kernel
theorem dX11_at_16 : decode cX11_at 16 = .ok (.getfield 161, 3) := by decide +kernel
theorem dX11_at_19 : decode cX11_at 19 = .ok (.if_icmp .ge 12, 3) := by decide +kernel
theorem dX11_at_22 : decode cX11_at 22 = .ok (.iload_n 2, 1) := by decide +kernel
theorem dX11_at_23 : decode cX11_at 23 = .ok (.aload_n 3, 1) := by decide +kernel
theorem dX11_at_24 : decode cX11_at 24 = .ok (.getfield 166, 3) := by decide +kernel
theorem dX11_at_27 : decode cX11_at 27 = .ok (.arraylength, 1) := by decide +kernel
theorem dX11_at_28 : decode cX11_at 28 = .ok (.if_icmp .lt 5, 3) := by decide +kernel
theorem dX11_at_31 : decode cX11_at 31 = .ok (.iconst (-1), 1) := by decide +kernel
theorem dX11_at_32 : decode cX11_at 32 = .ok (.ireturn, 1) := by decide +kernel
theorem dX11_at_33 : decode cX11_at 33 = .ok (.aload_n 3, 1) := by decide +kernel
theorem dX11_at_34 : decode cX11_at 34 = .ok (.getfield 166, 3) := by decide +kernel
theorem dX11_at_37 : decode cX11_at 37 = .ok (.iload_n 2, 1) := by decide +kernel
theorem dX11_at_38 : decode cX11_at 38 = .ok (.baload, 1) := by decide +kernel
theorem dX11_at_39 : decode cX11_at 39 = .ok (.sipush 255, 3) := by decide +kernel
theorem dX11_at_42 : decode cX11_at 42 = .ok (.iand, 1) := by decide +kernel
theorem dX11_at_43 : decode cX11_at 43 = .ok (.ireturn, 1) := by decide +kernel
theorem wX11_at {x : GX} {n0 sl0 : Nat} (X : Cx x cX11_at RX11 (some .int) n0 sl0 2 42) {out : Int32 × Mm} (hE : Ends x n0 sl0 (some (pI out.1)) out.2) (hn : xn x = 4) (fu : Nat)   (a0 : Nat) (a1 : Int32) (a2 : Int32)  (M : Mm) (h : fX11_at fu  a0 a1 a2 M = some out) : Gw x M 0 [(0, pR (some a0)), (1, pI a1), (2, pI a2)] [] := by
  unfold fX11_at at h
  refine g_aload_n X (pc := 0) 0 rfl rfl dX11_at_0 ?_
  refine g_iload_n X (pc := 1) 1 rfl rfl dX11_at_1 ?_
  obtain ⟨q1, eq1, h⟩ := bd h
  obtain ⟨v3, M2, eM2, h⟩ := b2d h
  refine g_callV X (pc := 2) (M' := M2) (ro := some (pR v3)) (c := 11) rfl (by decide) (as := [pI a1]) (as' := [pI a1]) (st := []) eq1 (ctX11_frameBack _ _ _ _ _ _ fu q1 a1 M _ eM2) tb_1499 tb_1496 tb_1498 ts_61 tb_1 ⟨rfl, hyX11_frameBack⟩ rfl rfl ⟨by decide, by decide⟩ (Nat.le_of_ble_eq_true rfl) dX11_at_2 ?_
  refine g_astore_n X (pc := 5) [(3, pR v3), (0, pR (some a0)), (1, pI a1), (2, pI a2)] rfl (lt_n hn (by decide)) rfl dX11_at_5 ?_
  refine g_aload_n X (pc := 6) 0 rfl rfl dX11_at_6 ?_
  refine g_ifnull X (pc := 7) (tgt := 31) dX11_at_7 (by decide) (fun hc => ?_) (fun hc => ?_)
  · have h := (if_pos hc).symm.trans h
    refine g_iconst X (pc := 31) (v := (-1)) dX11_at_31 (by decide) ?_
    obtain rfl := Option.some.inj h
    exact g_ireturn X hE dX11_at_32
  · have h := (if_neg hc).symm.trans h
    refine g_iload_n X (pc := 10) 3 rfl rfl dX11_at_10 ?_
    refine g_if_lt X (pc := 11) (tgt := 31) dX11_at_11 (by decide) (fun hc => ?_) (fun hc => ?_)
    · have h := (if_pos hc).symm.trans h
      refine g_iconst X (pc := 31) (v := (-1)) dX11_at_31 (by decide) ?_
      obtain rfl := Option.some.inj h
      exact g_ireturn X hE dX11_at_32
    · have h := (if_neg hc).symm.trans h
      refine g_iload_n X (pc := 14) 3 rfl rfl dX11_at_14 ?_
      refine g_aload_n X (pc := 15) 0 rfl rfl dX11_at_15 ?_
      obtain ⟨v4, ev4, h⟩ := bd h
      refine g_getI X (pc := 16) fk_6_1 rfl rfl ev4 tb_546 dX11_at_16 ?_
      refine g_icmp_ge X (pc := 19) (tgt := 31) dX11_at_19 (by decide) (fun hc => ?_) (fun hc => ?_)
      · have h := (if_pos hc).symm.trans h
        refine g_iconst X (pc := 31) (v := (-1)) dX11_at_31 (by decide) ?_
        obtain rfl := Option.some.inj h
        exact g_ireturn X hE dX11_at_32
      · have h := (if_neg hc).symm.trans h
        refine g_iload_n X (pc := 22) 3 rfl rfl dX11_at_22 ?_
        refine g_aload_n X (pc := 23) 0 rfl rfl dX11_at_23 ?_
        obtain ⟨v5, ev5, h⟩ := bd h
        refine g_getR X (pc := 24) fk_6_0 rfl rfl ev5 tb_543 dX11_at_24 ?_
        obtain ⟨v6, ev6, h⟩ := bd h
        refine g_alen X (pc := 27) (k := 0) rfl (by decide) ev6 dX11_at_27 ?_
        refine g_icmp_lt X (pc := 28) (tgt := 33) dX11_at_28 (by decide) (fun hc => ?_) (fun hc => ?_)
        · have h := (if_pos hc).symm.trans h
          refine g_aload_n X (pc := 33) 0 rfl rfl dX11_at_33 ?_
          obtain ⟨v7, ev7, h⟩ := bd h
          refine g_getR X (pc := 34) fk_6_0 rfl rfl ev7 tb_543 dX11_at_34 ?_
          refine g_iload_n X (pc := 37) 3 rfl rfl dX11_at_37 ?_
          obtain ⟨v8, ev8, h⟩ := bd h
          refine g_baload X (pc := 38) ev8 dX11_at_38 ?_
          refine g_sipush X (pc := 39) (v := 255) dX11_at_39 (by decide) ?_
          refine g_iand X (pc := 42) dX11_at_42 ?_
          obtain rfl := Option.some.inj h
          exact g_ireturn X hE dX11_at_43
        · have h := (if_neg hc).symm.trans h
          refine g_iconst X (pc := 31) (v := (-1)) dX11_at_31 (by decide) ?_
          obtain rfl := Option.some.inj h
          exact g_ireturn X hE dX11_at_32
theorem hyX11_at : yX11_at.cls ≠ "java/lang/invoke/MethodHandle" ∧ yX11_at.cls ≠ "java/lang/invoke/VarHandle" ∧ (parseMethodDescriptor yX11_at.desc).map (fun d => d.parameters.length) = some 2 := ⟨by decide +kernel, by decide +kernel, by decide +kernel⟩
theorem ctX11_at (l : Launch) (E : Nat → Nat) (D : va_G) (dA : Nat → ClassId) (lo : Nat) (H0 : Heap) (fu : Nat) (a0 : Nat) (a1 : Int32) (a2 : Int32) (M : Mm) (out : Int32 × Mm) (h : fX11_at fu a0 a1 a2 M = some out) : Ct l E D dA lo H0 yX11_at cX11_at 4 (some .int) 2 42 [pR (some a0), pI a1, pI a2] M (some (pI out.1)) out.2 := by
  refine ct_of (by decide +kernel) (Nat.le_of_ble_eq_true rfl) ?_
  intro x hl he hd ha ho hh hn hin X hE
  exact wX11_at X hE hn fu a0 a1 a2 M h
/-! WebHost.time(I)I -/
def fX11_time (fu : Nat)  (a0 : Nat) (a1 : Int32)  (M : Mm) : Option (Int32 × Mm) :=
    (rc M 11 (some a0)).bind fun q1 =>
    b2 (fX11_frameBack fu q1 a1 M) fun v3 M2 =>
    if v3 = none then (
    some ((-1 : Int32), M2))
    else (
    (gI M2 6 386 v3).bind fun v4 =>
    some (v4, M2))
theorem dX11_time_0 : decode cX11_time 0 = .ok (.aload_n 0, 1) := by decide +kernel
theorem dX11_time_1 : decode cX11_time 1 = .ok (.iload_n 1, 1) := by decide +kernel
theorem dX11_time_2 : decode cX11_time 2 = .ok (.invokevirtual 157, 3) := by decide +kernel
theorem dX11_time_5 : decode cX11_time 5 = .ok (.astore_n 2, 1) := by decide +kernel
theorem dX11_time_6 : decode cX11_time 6 = .ok (.aload_n 2, 1) := by decide +kernel
theorem dX11_time_7 : decode cX11_time 7 = .ok (.ifnonnull 7, 3) := by decide +kernel
theorem dX11_time_10 : decode cX11_time 10 = .ok (.iconst (-1), 1) := by decide +kernel
theorem dX11_time_11 : decode cX11_time 11 = .ok (.goto 7, 3) := by decide +kernel
theorem dX11_time_14 : decode cX11_time 14 = .ok (.aload_n 2, 1) := by decide +kernel
theorem dX11_time_15 : decode cX11_time 15 = .ok (.getfield 169, 3) := by decide +kernel
theorem dX11_time_18 : decode cX11_time 18 = .ok (.ireturn, 1) := by decide +kernel
theorem wX11_time {x : GX} {n0 sl0 : Nat} (X : Cx x cX11_time RX11 (some .int) n0 sl0 2 42) {out : Int32 × Mm} (hE : Ends x n0 sl0 (some (pI out.1)) out.2) (hn : xn x = 3) (fu : Nat)   (a0 : Nat) (a1 : Int32)  (M : Mm) (h : fX11_time fu  a0 a1 M = some out) : Gw x M 0 [(0, pR (some a0)), (1, pI a1)] [] := by
  unfold fX11_time at h
  refine g_aload_n X (pc := 0) 0 rfl rfl dX11_time_0 ?_
  refine g_iload_n X (pc := 1) 1 rfl rfl dX11_time_1 ?_
  obtain ⟨q1, eq1, h⟩ := bd h
  obtain ⟨v3, M2, eM2, h⟩ := b2d h
  refine g_callV X (pc := 2) (M' := M2) (ro := some (pR v3)) (c := 11) rfl (by decide) (as := [pI a1]) (as' := [pI a1]) (st := []) eq1 (ctX11_frameBack _ _ _ _ _ _ fu q1 a1 M _ eM2) tb_1499 tb_1496 tb_1498 ts_61 tb_1 ⟨rfl, hyX11_frameBack⟩ rfl rfl ⟨by decide, by decide⟩ (Nat.le_of_ble_eq_true rfl) dX11_time_2 ?_
  refine g_astore_n X (pc := 5) [(2, pR v3), (0, pR (some a0)), (1, pI a1)] rfl (lt_n hn (by decide)) rfl dX11_time_5 ?_
  refine g_aload_n X (pc := 6) 0 rfl rfl dX11_time_6 ?_
  refine g_ifnonnull X (pc := 7) (tgt := 14) dX11_time_7 (by decide) (fun hc => ?_) (fun hc => ?_)
  · have h := (if_neg hc).symm.trans h
    refine g_aload_n X (pc := 14) 0 rfl rfl dX11_time_14 ?_
    obtain ⟨v4, ev4, h⟩ := bd h
    refine g_getI X (pc := 15) fk_6_2 rfl rfl ev4 tb_548 dX11_time_15 ?_
    obtain rfl := Option.some.inj h
    exact g_ireturn X hE dX11_time_18
  · have h := (if_pos hc).symm.trans h
    refine g_iconst X (pc := 10) (v := (-1)) dX11_time_10 (by decide) ?_
    refine g_goto X (pc := 11) (tgt := 18) dX11_time_11 (by decide) ?_
    obtain rfl := Option.some.inj h
    exact g_ireturn X hE dX11_time_18
theorem hyX11_time : yX11_time.cls ≠ "java/lang/invoke/MethodHandle" ∧ yX11_time.cls ≠ "java/lang/invoke/VarHandle" ∧ (parseMethodDescriptor yX11_time.desc).map (fun d => d.parameters.length) = some 1 := ⟨by decide +kernel, by decide +kernel, by decide +kernel⟩
theorem ctX11_time (l : Launch) (E : Nat → Nat) (D : va_G) (dA : Nat → ClassId) (lo : Nat) (H0 : Heap) (fu : Nat) (a0 : Nat) (a1 : Int32) (M : Mm) (out : Int32 × Mm) (h : fX11_time fu a0 a1 M = some out) : Ct l E D dA lo H0 yX11_time cX11_time 3 (some .int) 2 42 [pR (some a0), pI a1] M (some (pI out.1)) out.2 := by
  refine ct_of (by decide +kernel) (Nat.le_of_ble_eq_true rfl) ?_
  intro x hl he hd ha ho hh hn hin X hE
  exact wX11_time X hE hn fu a0 a1 M h
/-! WebHost.connectionAt(I)LWebHost$Connection; -/
def fX11_connectionAt (fu : Nat)  (a0 : Nat) (a1 : Int32)  (M : Mm) : Option (Option Nat × Mm) :=
    (gI M 11 712 (some a0)).bind fun v1 =>
    if v1 = 0 then (
    some (none, M))
    else (
    (gR M 11 708 (some a0)).bind fun v2 =>
    (rc M 9 v2).bind fun q3 =>
    b2 (fX9_connectionAt fu q3 a1 M) fun v5 M4 =>
    some (v5, M4))
theorem dX11_connectionAt_0 : decode cX11_connectionAt 0 = .ok (.aload_n 0, 1) := by decide +kernel
theorem dX11_connectionAt_1 : decode cX11_connectionAt 1 = .ok (.getfield 89, 3) := by decide +kernel
theorem dX11_connectionAt_4 : decode cX11_connectionAt 4 = .ok (.ifCond .eq 14, 3) := by decide +kernel
theorem dX11_connectionAt_7 : decode cX11_connectionAt 7 = .ok (.aload_n 0, 1) := by decide +kernel
theorem dX11_connectionAt_8 : decode cX11_connectionAt 8 = .ok (.getfield 46, 3) := by decide +kernel
theorem dX11_connectionAt_11 : decode cX11_connectionAt 11 = .ok (.iload_n 1, 1) := by decide +kernel
theorem dX11_connectionAt_12 : decode cX11_connectionAt 12 = .ok (.invokevirtual 242, 3) := by decide +kernel
theorem dX11_connectionAt_15 : decode cX11_connectionAt 15 = .ok (.goto 4, 3) := by decide +kernel
theorem dX11_connectionAt_18 : decode cX11_connectionAt 18 = .ok (.aconst_null, 1) := by decide +kernel
theorem dX11_connectionAt_19 : decode cX11_connectionAt 19 = .ok (.areturn, 1) := by decide +kernel
theorem wX11_connectionAt {x : GX} {n0 sl0 : Nat} (X : Cx x cX11_connectionAt RX11 (some (.object "WebHost$Connection")) n0 sl0 1 22) {out : Option Nat × Mm} (hE : Ends x n0 sl0 (some (pR out.1)) out.2) (hn : xn x = 2) (fu : Nat)   (a0 : Nat) (a1 : Int32)  (M : Mm) (h : fX11_connectionAt fu  a0 a1 M = some out) : Gw x M 0 [(0, pR (some a0)), (1, pI a1)] [] := by
  unfold fX11_connectionAt at h
  refine g_aload_n X (pc := 0) 0 rfl rfl dX11_connectionAt_0 ?_
  obtain ⟨v1, ev1, h⟩ := bd h
  refine g_getI X (pc := 1) fk_11_8 rfl rfl ev1 tb_322 dX11_connectionAt_1 ?_
  refine g_if_eq X (pc := 4) (tgt := 18) dX11_connectionAt_4 (by decide) (fun hc => ?_) (fun hc => ?_)
  · have h := (if_pos hc).symm.trans h
    refine g_null X (pc := 18) dX11_connectionAt_18 ?_
    obtain rfl := Option.some.inj h
    exact g_areturn X rfl (Or.inl ⟨_, rfl⟩) hE dX11_connectionAt_19
  · have h := (if_neg hc).symm.trans h
    refine g_aload_n X (pc := 7) 0 rfl rfl dX11_connectionAt_7 ?_
    obtain ⟨v2, ev2, h⟩ := bd h
    refine g_getR X (pc := 8) fk_11_4 rfl rfl ev2 tb_318 dX11_connectionAt_8 ?_
    refine g_iload_n X (pc := 11) 1 rfl rfl dX11_connectionAt_11 ?_
    obtain ⟨q3, eq3, h⟩ := bd h
    obtain ⟨v5, M4, eM4, h⟩ := b2d h
    refine g_callV X (pc := 12) (M' := M4) (ro := some (pR v5)) (c := 9) rfl (by decide) (as := [pI a1]) (as' := [pI a1]) (st := []) eq3 (ctX9_connectionAt _ _ _ _ _ _ fu q3 a1 M _ eM4) tb_491 tb_1520 tb_489 tb_490 tb_6 ⟨rfl, hyX9_connectionAt⟩ rfl rfl ⟨by decide, by decide⟩ (Nat.le_of_ble_eq_true rfl) dX11_connectionAt_12 ?_
    refine g_goto X (pc := 15) (tgt := 19) dX11_connectionAt_15 (by decide) ?_
    obtain rfl := Option.some.inj h
    exact g_areturn X rfl (Or.inl ⟨_, rfl⟩) hE dX11_connectionAt_19
theorem hyX11_connectionAt : yX11_connectionAt.cls ≠ "java/lang/invoke/MethodHandle" ∧ yX11_connectionAt.cls ≠ "java/lang/invoke/VarHandle" ∧ (parseMethodDescriptor yX11_connectionAt.desc).map (fun d => d.parameters.length) = some 1 := ⟨by decide +kernel, by decide +kernel, by decide +kernel⟩
theorem ctX11_connectionAt (l : Launch) (E : Nat → Nat) (D : va_G) (dA : Nat → ClassId) (lo : Nat) (H0 : Heap) (fu : Nat) (a0 : Nat) (a1 : Int32) (M : Mm) (out : Option Nat × Mm) (h : fX11_connectionAt fu a0 a1 M = some out) : Ct l E D dA lo H0 yX11_connectionAt cX11_connectionAt 2 (some (.object "WebHost$Connection")) 1 22 [pR (some a0), pI a1] M (some (pR out.1)) out.2 := by
  refine ct_of (by decide +kernel) (Nat.le_of_ble_eq_true rfl) ?_
  intro x hl he hd ha ho hh hn hin X hE
  exact wX11_connectionAt X hE hn fu a0 a1 M h
/-! WebHost.state(I)I -/
def fX11_state (fu : Nat)  (a0 : Nat) (a1 : Int32)  (M : Mm) : Option (Int32 × Mm) :=
    if a1 < 0 then (
    some ((-1 : Int32), M))
    else (
    if a1 < (16 : Int32) then (
    (rc M 11 (some a0)).bind fun q1 =>
    b2 (fX11_connectionAt fu q1 a1 M) fun v3 M2 =>
    if v3 = none then (
    some ((0 : Int32), M2))
    else (
    (gI M2 1 64 v3).bind fun v4 =>
    some (v4, M2)))
    else (
    some ((-1 : Int32), M)))
theorem dX11_state_0 : decode cX11_state 0 = .ok (.iload_n 1, 1) := by decide +kernel
theorem dX11_state_1 : decode cX11_state 1 = .ok (.ifCond .lt 9, 3) := by decide +kernel
theorem dX11_state_4 : decode cX11_state 4 = .ok (.iload_n 1, 1) := by decide +kernel
theorem dX11_state_5 : decode cX11_state 5 = .ok (.bipush 16, 2) := by decide +kernel
theorem dX11_state_7 : decode cX11_state 7 = .ok (.if_icmp .lt 5, 3) := by decide +kernel
theorem dX11_state_10 : decode cX11_state 10 = .ok (.iconst (-1), 1) := by decide +kernel
theorem dX11_state_11 : decode cX11_state 11 = .ok (.ireturn, 1) := by decide +kernel
theorem dX11_state_12 : decode cX11_state 12 = .ok (.aload_n 0, 1) := by decide +kernel
theorem dX11_state_13 : decode cX11_state 13 = .ok (.iload_n 1, 1) := by decide +kernel
theorem dX11_state_14 : decode cX11_state 14 = .ok (.invokevirtual 172, 3) := by decide +kernel
theorem dX11_state_17 : decode cX11_state 17 = .ok (.astore_n 2, 1) := by decide +kernel
theorem dX11_state_18 : decode cX11_state 18 = .ok (.aload_n 2, 1) := by decide +kernel
theorem dX11_state_19 : decode cX11_state 19 = .ok (.ifnonnull 7, 3) := by decide +kernel
theorem dX11_state_22 : decode cX11_state 22 = .ok (.iconst 0, 1) := by decide +kernel
theorem dX11_state_23 : decode cX11_state 23 = .ok (.goto 7, 3) := by decide +kernel
theorem dX11_state_26 : decode cX11_state 26 = .ok (.aload_n 2, 1) := by decide +kernel
theorem dX11_state_27 : decode cX11_state 27 = .ok (.getfield 176, 3) := by decide +kernel
theorem dX11_state_30 : decode cX11_state 30 = .ok (.ireturn, 1) := by decide +kernel
theorem wX11_state {x : GX} {n0 sl0 : Nat} (X : Cx x cX11_state RX11 (some .int) n0 sl0 2 43) {out : Int32 × Mm} (hE : Ends x n0 sl0 (some (pI out.1)) out.2) (hn : xn x = 3) (fu : Nat)   (a0 : Nat) (a1 : Int32)  (M : Mm) (h : fX11_state fu  a0 a1 M = some out) : Gw x M 0 [(0, pR (some a0)), (1, pI a1)] [] := by
  unfold fX11_state at h
  refine g_iload_n X (pc := 0) 1 rfl rfl dX11_state_0 ?_
  refine g_if_lt X (pc := 1) (tgt := 10) dX11_state_1 (by decide) (fun hc => ?_) (fun hc => ?_)
  · have h := (if_pos hc).symm.trans h
    refine g_iconst X (pc := 10) (v := (-1)) dX11_state_10 (by decide) ?_
    obtain rfl := Option.some.inj h
    exact g_ireturn X hE dX11_state_11
  · have h := (if_neg hc).symm.trans h
    refine g_iload_n X (pc := 4) 1 rfl rfl dX11_state_4 ?_
    refine g_bipush X (pc := 5) (v := 16) dX11_state_5 (by decide) ?_
    refine g_icmp_lt X (pc := 7) (tgt := 12) dX11_state_7 (by decide) (fun hc => ?_) (fun hc => ?_)
    · have h := (if_pos hc).symm.trans h
      refine g_aload_n X (pc := 12) 0 rfl rfl dX11_state_12 ?_
      refine g_iload_n X (pc := 13) 1 rfl rfl dX11_state_13 ?_
      obtain ⟨q1, eq1, h⟩ := bd h
      obtain ⟨v3, M2, eM2, h⟩ := b2d h
      refine g_callV X (pc := 14) (M' := M2) (ro := some (pR v3)) (c := 11) rfl (by decide) (as := [pI a1]) (as' := [pI a1]) (st := []) eq1 (ctX11_connectionAt _ _ _ _ _ _ fu q1 a1 M _ eM2) tb_1519 tb_1516 tb_1518 ts_62 tb_1 ⟨rfl, hyX11_connectionAt⟩ rfl rfl ⟨by decide, by decide⟩ (Nat.le_of_ble_eq_true rfl) dX11_state_14 ?_
      refine g_astore_n X (pc := 17) [(2, pR v3), (0, pR (some a0)), (1, pI a1)] rfl (lt_n hn (by decide)) rfl dX11_state_17 ?_
      refine g_aload_n X (pc := 18) 0 rfl rfl dX11_state_18 ?_
      refine g_ifnonnull X (pc := 19) (tgt := 26) dX11_state_19 (by decide) (fun hc => ?_) (fun hc => ?_)
      · have h := (if_neg hc).symm.trans h
        refine g_aload_n X (pc := 26) 0 rfl rfl dX11_state_26 ?_
        obtain ⟨v4, ev4, h⟩ := bd h
        refine g_getI X (pc := 27) fk_1_0 rfl rfl ev4 tb_960 dX11_state_27 ?_
        obtain rfl := Option.some.inj h
        exact g_ireturn X hE dX11_state_30
      · have h := (if_pos hc).symm.trans h
        refine g_iconst X (pc := 22) (v := 0) dX11_state_22 (by decide) ?_
        refine g_goto X (pc := 23) (tgt := 30) dX11_state_23 (by decide) ?_
        obtain rfl := Option.some.inj h
        exact g_ireturn X hE dX11_state_30
    · have h := (if_neg hc).symm.trans h
      refine g_iconst X (pc := 10) (v := (-1)) dX11_state_10 (by decide) ?_
      obtain rfl := Option.some.inj h
      exact g_ireturn X hE dX11_state_11
theorem hyX11_state : yX11_state.cls ≠ "java/lang/invoke/MethodHandle" ∧ yX11_state.cls ≠ "java/lang/invoke/VarHandle" ∧ (parseMethodDescriptor yX11_state.desc).map (fun d => d.parameters.length) = some 1 := ⟨by decide +kernel, by decide +kernel, by decide +kernel⟩
theorem ctX11_state (l : Launch) (E : Nat → Nat) (D : va_G) (dA : Nat → ClassId) (lo : Nat) (H0 : Heap) (fu : Nat) (a0 : Nat) (a1 : Int32) (M : Mm) (out : Int32 × Mm) (h : fX11_state fu a0 a1 M = some out) : Ct l E D dA lo H0 yX11_state cX11_state 3 (some .int) 2 43 [pR (some a0), pI a1] M (some (pI out.1)) out.2 := by
  refine ct_of (by decide +kernel) (Nat.le_of_ble_eq_true rfl) ?_
  intro x hl he hd ha ho hh hn hin X hE
  exact wX11_state X hE hn fu a0 a1 M h
/-! WebHost.cached(I)Z -/
def fX11_cached (fu : Nat)  (a0 : Nat) (a1 : Int32)  (M : Mm) : Option (Int32 × Mm) :=
    (gI M 11 712 (some a0)).bind fun v1 =>
    if v1 = 0 then (
    rN .boolean (0 : Int32) M)
    else (
    (gR M 11 706 (some a0)).bind fun v2 =>
    (rc M 4 v2).bind fun q3 =>
    b2 (fX4_counting fu q3 a1 M) fun v5 M4 =>
    if v5 < 0 then (
    rN .boolean (0 : Int32) M4)
    else (
    rN .boolean (1 : Int32) M4))
theorem dX11_cached_0 : decode cX11_cached 0 = .ok (.aload_n 0, 1) := by decide +kernel
theorem dX11_cached_1 : decode cX11_cached 1 = .ok (.getfield 89, 3) := by decide +kernel
theorem dX11_cached_4 : decode cX11_cached 4 = .ok (.ifCond .eq 18, 3) := by decide +kernel
theorem dX11_cached_7 : decode cX11_cached 7 = .ok (.aload_n 0, 1) := by decide +kernel
theorem dX11_cached_8 : decode cX11_cached 8 = .ok (.getfield 28, 3) := by decide +kernel
theorem dX11_cached_11 : decode cX11_cached 11 = .ok (.iload_n 1, 1) := by decide +kernel
theorem dX11_cached_12 : decode cX11_cached 12 = .ok (.invokevirtual 188, 3) := by decide +kernel
theorem dX11_cached_15 : decode cX11_cached 15 = .ok (.ifCond .lt 7, 3) := by decide +kernel
theorem dX11_cached_18 : decode cX11_cached 18 = .ok (.iconst 1, 1) := by decide +kernel
theorem dX11_cached_19 : decode cX11_cached 19 = .ok (.goto 4, 3) := by decide +kernel
theorem dX11_cached_22 : decode cX11_cached 22 = .ok (.iconst 0, 1) := by decide +kernel
theorem dX11_cached_23 : decode cX11_cached 23 = .ok (.ireturn, 1) := by decide +kernel
theorem wX11_cached {x : GX} {n0 sl0 : Nat} (X : Cx x cX11_cached RX11 (some .boolean) n0 sl0 2 44) {out : Int32 × Mm} (hE : Ends x n0 sl0 (some (pI out.1)) out.2) (hn : xn x = 2) (fu : Nat)   (a0 : Nat) (a1 : Int32)  (M : Mm) (h : fX11_cached fu  a0 a1 M = some out) : Gw x M 0 [(0, pR (some a0)), (1, pI a1)] [] := by
  unfold fX11_cached at h
  refine g_aload_n X (pc := 0) 0 rfl rfl dX11_cached_0 ?_
  obtain ⟨v1, ev1, h⟩ := bd h
  refine g_getI X (pc := 1) fk_11_8 rfl rfl ev1 tb_322 dX11_cached_1 ?_
  refine g_if_eq X (pc := 4) (tgt := 22) dX11_cached_4 (by decide) (fun hc => ?_) (fun hc => ?_)
  · have h := (if_pos hc).symm.trans h
    refine g_iconst X (pc := 22) (v := 0) dX11_cached_22 (by decide) ?_
    obtain ⟨hz, rfl⟩ := rN_some h
    exact g_nreturn X rfl hz hE dX11_cached_23
  · have h := (if_neg hc).symm.trans h
    refine g_aload_n X (pc := 7) 0 rfl rfl dX11_cached_7 ?_
    obtain ⟨v2, ev2, h⟩ := bd h
    refine g_getR X (pc := 8) fk_11_2 rfl rfl ev2 tb_316 dX11_cached_8 ?_
    refine g_iload_n X (pc := 11) 1 rfl rfl dX11_cached_11 ?_
    obtain ⟨q3, eq3, h⟩ := bd h
    obtain ⟨v5, M4, eM4, h⟩ := b2d h
    refine g_callV X (pc := 12) (M' := M4) (ro := some (pI v5)) (c := 4) rfl (by decide) (as := [pI a1]) (as' := [pI a1]) (st := []) eq3 (ctX4_counting _ _ _ _ _ _ fu q3 a1 M _ eM4) tb_636 tb_1536 tb_634 tb_635 tb_4 ⟨rfl, hyX4_counting⟩ rfl rfl ⟨by decide, by decide⟩ (Nat.le_of_ble_eq_true rfl) dX11_cached_12 ?_
    refine g_if_lt X (pc := 15) (tgt := 22) dX11_cached_15 (by decide) (fun hc => ?_) (fun hc => ?_)
    · have h := (if_pos hc).symm.trans h
      refine g_iconst X (pc := 22) (v := 0) dX11_cached_22 (by decide) ?_
      obtain ⟨hz, rfl⟩ := rN_some h
      exact g_nreturn X rfl hz hE dX11_cached_23
    · have h := (if_neg hc).symm.trans h
      refine g_iconst X (pc := 18) (v := 1) dX11_cached_18 (by decide) ?_
      refine g_goto X (pc := 19) (tgt := 23) dX11_cached_19 (by decide) ?_
      obtain ⟨hz, rfl⟩ := rN_some h
      exact g_nreturn X rfl hz hE dX11_cached_23
theorem hyX11_cached : yX11_cached.cls ≠ "java/lang/invoke/MethodHandle" ∧ yX11_cached.cls ≠ "java/lang/invoke/VarHandle" ∧ (parseMethodDescriptor yX11_cached.desc).map (fun d => d.parameters.length) = some 1 := ⟨by decide +kernel, by decide +kernel, by decide +kernel⟩
theorem ctX11_cached (l : Launch) (E : Nat → Nat) (D : va_G) (dA : Nat → ClassId) (lo : Nat) (H0 : Heap) (fu : Nat) (a0 : Nat) (a1 : Int32) (M : Mm) (out : Int32 × Mm) (h : fX11_cached fu a0 a1 M = some out) : Ct l E D dA lo H0 yX11_cached cX11_cached 2 (some .boolean) 2 44 [pR (some a0), pI a1] M (some (pI out.1)) out.2 := by
  refine ct_of (by decide +kernel) (Nat.le_of_ble_eq_true rfl) ?_
  intro x hl he hd ha ho hh hn hin X hE
  exact wX11_cached X hE hn fu a0 a1 M h
/-! WebHost.waiting()I -/
def fX11_waiting (fu : Nat)  (a0 : Nat)  (M : Mm) : Option (Int32 × Mm) :=
    (gI M 11 712 (some a0)).bind fun v1 =>
    if v1 = 0 then (
    some ((0 : Int32), M))
    else (
    (gR M 11 706 (some a0)).bind fun v2 =>
    (gI M 4 260 v2).bind fun v3 =>
    some (v3, M))
theorem dX11_waiting_0 : decode cX11_waiting 0 = .ok (.aload_n 0, 1) := by decide +kernel
theorem dX11_waiting_1 : decode cX11_waiting 1 = .ok (.getfield 89, 3) := by decide +kernel
theorem dX11_waiting_4 : decode cX11_waiting 4 = .ok (.ifCond .eq 13, 3) := by decide +kernel
theorem dX11_waiting_7 : decode cX11_waiting 7 = .ok (.aload_n 0, 1) := by decide +kernel
theorem dX11_waiting_8 : decode cX11_waiting 8 = .ok (.getfield 28, 3) := by decide +kernel
theorem dX11_waiting_11 : decode cX11_waiting 11 = .ok (.getfield 191, 3) := by decide +kernel
theorem dX11_waiting_14 : decode cX11_waiting 14 = .ok (.goto 4, 3) := by decide +kernel
theorem dX11_waiting_17 : decode cX11_waiting 17 = .ok (.iconst 0, 1) := by decide +kernel
theorem dX11_waiting_18 : decode cX11_waiting 18 = .ok (.ireturn, 1) := by decide +kernel
theorem wX11_waiting {x : GX} {n0 sl0 : Nat} (X : Cx x cX11_waiting RX11 (some .int) n0 sl0 0 0) {out : Int32 × Mm} (hE : Ends x n0 sl0 (some (pI out.1)) out.2) (hn : xn x = 1) (fu : Nat)   (a0 : Nat)  (M : Mm) (h : fX11_waiting fu  a0 M = some out) : Gw x M 0 [(0, pR (some a0))] [] := by
  unfold fX11_waiting at h
  refine g_aload_n X (pc := 0) 0 rfl rfl dX11_waiting_0 ?_
  obtain ⟨v1, ev1, h⟩ := bd h
  refine g_getI X (pc := 1) fk_11_8 rfl rfl ev1 tb_322 dX11_waiting_1 ?_
  refine g_if_eq X (pc := 4) (tgt := 17) dX11_waiting_4 (by decide) (fun hc => ?_) (fun hc => ?_)
  · have h := (if_pos hc).symm.trans h
    refine g_iconst X (pc := 17) (v := 0) dX11_waiting_17 (by decide) ?_
    obtain rfl := Option.some.inj h
    exact g_ireturn X hE dX11_waiting_18
  · have h := (if_neg hc).symm.trans h
    refine g_aload_n X (pc := 7) 0 rfl rfl dX11_waiting_7 ?_
    obtain ⟨v2, ev2, h⟩ := bd h
    refine g_getR X (pc := 8) fk_11_2 rfl rfl ev2 tb_316 dX11_waiting_8 ?_
    obtain ⟨v3, ev3, h⟩ := bd h
    refine g_getI X (pc := 11) fk_4_4 rfl rfl ev3 tb_108 dX11_waiting_11 ?_
    refine g_goto X (pc := 14) (tgt := 18) dX11_waiting_14 (by decide) ?_
    obtain rfl := Option.some.inj h
    exact g_ireturn X hE dX11_waiting_18
theorem hyX11_waiting : yX11_waiting.cls ≠ "java/lang/invoke/MethodHandle" ∧ yX11_waiting.cls ≠ "java/lang/invoke/VarHandle" ∧ (parseMethodDescriptor yX11_waiting.desc).map (fun d => d.parameters.length) = some 0 := ⟨by decide +kernel, by decide +kernel, by decide +kernel⟩
theorem ctX11_waiting (l : Launch) (E : Nat → Nat) (D : va_G) (dA : Nat → ClassId) (lo : Nat) (H0 : Heap) (fu : Nat) (a0 : Nat) (M : Mm) (out : Int32 × Mm) (h : fX11_waiting fu a0 M = some out) : Ct l E D dA lo H0 yX11_waiting cX11_waiting 1 (some .int) 0 0 [pR (some a0)] M (some (pI out.1)) out.2 := by
  refine ct_of (by decide +kernel) (Nat.le_of_ble_eq_true rfl) ?_
  intro x hl he hd ha ho hh hn hin X hE
  exact wX11_waiting X hE hn fu a0 M h
/-! WebHost.counted(I)I -/
def fX11_counted (fu : Nat)  (a0 : Nat) (a1 : Int32)  (M : Mm) : Option (Int32 × Mm) :=
    (gI M 11 712 (some a0)).bind fun v1 =>
    if v1 = 0 then (
    some ((-1 : Int32), M))
    else (
    if a1 < 0 then (
    some ((-1 : Int32), M))
    else (
    if a1 < (8 : Int32) then (
    (gR M 11 705 (some a0)).bind fun v2 =>
    (gR M 10 640 v2).bind fun v3 =>
    (gA M 101 v3 a1).bind fun v4 =>
    some (v4, M))
    else (
    some ((-1 : Int32), M))))
theorem dX11_counted_0 : decode cX11_counted 0 = .ok (.aload_n 0, 1) := by decide +kernel
theorem dX11_counted_1 : decode cX11_counted 1 = .ok (.getfield 89, 3) := by decide +kernel
theorem dX11_counted_4 : decode cX11_counted 4 = .ok (.ifCond .eq 13, 3) := by decide +kernel
theorem dX11_counted_7 : decode cX11_counted 7 = .ok (.iload_n 1, 1) := by decide +kernel
theorem dX11_counted_8 : decode cX11_counted 8 = .ok (.ifCond .lt 9, 3) := by decide +kernel
theorem dX11_counted_11 : decode cX11_counted 11 = .ok (.iload_n 1, 1) := by decide +kernel
theorem dX11_counted_12 : decode cX11_counted 12 = .ok (.bipush 8, 2) := by decide +kernel
theorem dX11_counted_14 : decode cX11_counted 14 = .ok (.if_icmp .lt 5, 3) := by decide +kernel
theorem dX11_counted_17 : decode cX11_counted 17 = .ok (.iconst (-1), 1) := by decide +kernel
theorem dX11_counted_18 : decode cX11_counted 18 = .ok (.ireturn, 1) := by decide +kernel
theorem dX11_counted_19 : decode cX11_counted 19 = .ok (.aload_n 0, 1) := by decide +kernel
theorem dX11_counted_20 : decode cX11_counted 20 = .ok (.getfield 19, 3) := by decide +kernel
theorem dX11_counted_23 : decode cX11_counted 23 = .ok (.getfield 126, 3) := by decide +kernel
theorem dX11_counted_26 : decode cX11_counted 26 = .ok (.iload_n 1, 1) := by decide +kernel
theorem dX11_counted_27 : decode cX11_counted 27 = .ok (.iaload, 1) := by decide +kernel
theorem dX11_counted_28 : decode cX11_counted 28 = .ok (.ireturn, 1) := by decide +kernel
theorem wX11_counted {x : GX} {n0 sl0 : Nat} (X : Cx x cX11_counted RX11 (some .int) n0 sl0 0 0) {out : Int32 × Mm} (hE : Ends x n0 sl0 (some (pI out.1)) out.2) (hn : xn x = 2) (fu : Nat)   (a0 : Nat) (a1 : Int32)  (M : Mm) (h : fX11_counted fu  a0 a1 M = some out) : Gw x M 0 [(0, pR (some a0)), (1, pI a1)] [] := by
  unfold fX11_counted at h
  refine g_aload_n X (pc := 0) 0 rfl rfl dX11_counted_0 ?_
  obtain ⟨v1, ev1, h⟩ := bd h
  refine g_getI X (pc := 1) fk_11_8 rfl rfl ev1 tb_322 dX11_counted_1 ?_
  refine g_if_eq X (pc := 4) (tgt := 17) dX11_counted_4 (by decide) (fun hc => ?_) (fun hc => ?_)
  · have h := (if_pos hc).symm.trans h
    refine g_iconst X (pc := 17) (v := (-1)) dX11_counted_17 (by decide) ?_
    obtain rfl := Option.some.inj h
    exact g_ireturn X hE dX11_counted_18
  · have h := (if_neg hc).symm.trans h
    refine g_iload_n X (pc := 7) 1 rfl rfl dX11_counted_7 ?_
    refine g_if_lt X (pc := 8) (tgt := 17) dX11_counted_8 (by decide) (fun hc => ?_) (fun hc => ?_)
    · have h := (if_pos hc).symm.trans h
      refine g_iconst X (pc := 17) (v := (-1)) dX11_counted_17 (by decide) ?_
      obtain rfl := Option.some.inj h
      exact g_ireturn X hE dX11_counted_18
    · have h := (if_neg hc).symm.trans h
      refine g_iload_n X (pc := 11) 1 rfl rfl dX11_counted_11 ?_
      refine g_bipush X (pc := 12) (v := 8) dX11_counted_12 (by decide) ?_
      refine g_icmp_lt X (pc := 14) (tgt := 19) dX11_counted_14 (by decide) (fun hc => ?_) (fun hc => ?_)
      · have h := (if_pos hc).symm.trans h
        refine g_aload_n X (pc := 19) 0 rfl rfl dX11_counted_19 ?_
        obtain ⟨v2, ev2, h⟩ := bd h
        refine g_getR X (pc := 20) fk_11_1 rfl rfl ev2 tb_315 dX11_counted_20 ?_
        obtain ⟨v3, ev3, h⟩ := bd h
        refine g_getR X (pc := 23) fk_10_0 rfl rfl ev3 tb_63 dX11_counted_23 ?_
        refine g_iload_n X (pc := 26) 1 rfl rfl dX11_counted_26 ?_
        obtain ⟨v4, ev4, h⟩ := bd h
        refine g_iaload X (pc := 27) ev4 dX11_counted_27 ?_
        obtain rfl := Option.some.inj h
        exact g_ireturn X hE dX11_counted_28
      · have h := (if_neg hc).symm.trans h
        refine g_iconst X (pc := 17) (v := (-1)) dX11_counted_17 (by decide) ?_
        obtain rfl := Option.some.inj h
        exact g_ireturn X hE dX11_counted_18
theorem hyX11_counted : yX11_counted.cls ≠ "java/lang/invoke/MethodHandle" ∧ yX11_counted.cls ≠ "java/lang/invoke/VarHandle" ∧ (parseMethodDescriptor yX11_counted.desc).map (fun d => d.parameters.length) = some 1 := ⟨by decide +kernel, by decide +kernel, by decide +kernel⟩
theorem ctX11_counted (l : Launch) (E : Nat → Nat) (D : va_G) (dA : Nat → ClassId) (lo : Nat) (H0 : Heap) (fu : Nat) (a0 : Nat) (a1 : Int32) (M : Mm) (out : Int32 × Mm) (h : fX11_counted fu a0 a1 M = some out) : Ct l E D dA lo H0 yX11_counted cX11_counted 2 (some .int) 0 0 [pR (some a0), pI a1] M (some (pI out.1)) out.2 := by
  refine ct_of (by decide +kernel) (Nat.le_of_ble_eq_true rfl) ?_
  intro x hl he hd ha ho hh hn hin X hE
  exact wX11_counted X hE hn fu a0 a1 M h
/-! WebHost.damage(II)Z -/
def fX11_damage_L35 (fu : Nat)  (a0 : Nat) (a1 : Int32) (a2 : Int32)  (M : Mm) : Option (Int32 × Mm) :=
    (gR M 11 704 (some a0)).bind fun v1 =>
    (gR M 8 512 v1).bind fun v2 =>
    (pA M 100 v2 a1 (Int8.toInt32 (Int32.toInt8 (Int8.toInt32 (Int32.toInt8 a2))))).bind fun M3 =>
    rN .boolean (1 : Int32) M3
def fX11_damage (fu : Nat)  (a0 : Nat) (a1 : Int32) (a2 : Int32)  (M : Mm) : Option (Int32 × Mm) :=
    if a1 < 0 then (
    rN .boolean (0 : Int32) M)
    else (
    (gR M 11 704 (some a0)).bind fun v1 =>
    (gR M 8 512 v1).bind fun v2 =>
    (aL M 100 v2).bind fun v3 =>
    if v3 ≤ a1 then (
    rN .boolean (0 : Int32) M)
    else (
    (gI M 11 712 (some a0)).bind fun v4 =>
    if v4 = 0 then (
    fX11_damage_L35 fu  a0 a1 a2 M)
    else (
    (gR M 11 708 (some a0)).bind fun v5 =>
    (rc M 9 v5).bind fun q6 =>
    b2 (fX9_isBusy fu q6  M) fun v8 M7 =>
    if v8 = 0 then (
    fX11_damage_L35 fu  a0 a1 a2 M7)
    else (
    rN .boolean (0 : Int32) M7))))
theorem dX11_damage_0 : decode cX11_damage 0 = .ok (.iload_n 1, 1) := by decide +kernel
theorem dX11_damage_1 : decode cX11_damage 1 = .ok (.ifCond .lt 32, 3) := by decide +kernel
theorem dX11_damage_4 : decode cX11_damage 4 = .ok (.iload_n 1, 1) := by decide +kernel
theorem dX11_damage_5 : decode cX11_damage 5 = .ok (.aload_n 0, 1) := by decide +kernel
theorem dX11_damage_6 : decode cX11_damage 6 = .ok (.getfield 10, 3) := by decide +kernel
theorem dX11_damage_9 : decode cX11_damage 9 = .ok (.getfield 194, 3) := by decide +kernel
theorem dX11_damage_12 : decode cX11_damage 12 = .ok (.arraylength, 1) := by decide +kernel
theorem dX11_damage_13 : decode cX11_damage 13 = .ok (.if_icmp .ge 20, 3) := by decide +kernel
theorem dX11_damage_16 : decode cX11_damage 16 = .ok (.aload_n 0, 1) := by decide +kernel
theorem dX11_damage_17 : decode cX11_damage 17 = .ok (.getfield 89, 3) := by decide +kernel
theorem dX11_damage_20 : decode cX11_damage 20 = .ok (.ifCond .eq 15, 3) := by decide +kernel
theorem dX11_damage_23 : decode cX11_damage 23 = .ok (.aload_n 0, 1) := by decide +kernel
theorem dX11_damage_24 : decode cX11_damage 24 = .ok (.getfield 46, 3) := by decide +kernel
theorem dX11_damage_27 : decode cX11_damage 27 = .ok (.invokevirtual 197, 3) := by decide +kernel
theorem dX11_damage_30 : decode cX11_damage 30 = .ok (.ifCond .eq 5, 3) := by decide +kernel
theorem dX11_damage_33 : decode cX11_damage 33 = .ok (.iconst 0, 1) := by decide +kernel
theorem dX11_damage_34 : decode cX11_damage 34 = .ok (.ireturn, 1) := by decide +kernel
theorem dX11_damage_35 : decode cX11_damage 35 = .ok (.aload_n 0, 1) := by decide +kernel
theorem dX11_damage_36 : decode cX11_damage 36 = .ok (.getfield 10, 3) := by decide +kernel
theorem dX11_damage_39 : decode cX11_damage 39 = .ok (.getfield 194, 3) := by decide +kernel
theorem dX11_damage_42 : decode cX11_damage 42 = .ok (.iload_n 1, 1) := by decide +kernel
theorem dX11_damage_43 : decode cX11_damage 43 = .ok (.iload_n 2, 1) := by decide +kernel
theorem dX11_damage_44 : decode cX11_damage 44 = .ok (.i2b, 1) := by decide +kernel
theorem dX11_damage_45 : decode cX11_damage 45 = .ok (.bastore, 1) := by decide +kernel
theorem dX11_damage_46 : decode cX11_damage 46 = .ok (.iconst 1, 1) := by decide +kernel
theorem dX11_damage_47 : decode cX11_damage 47 = .ok (.ireturn, 1) := by decide +kernel
theorem wX11_damage_L35 {x : GX} {n0 sl0 : Nat} (X : Cx x cX11_damage RX11 (some .boolean) n0 sl0 4 82) {out : Int32 × Mm} (hE : Ends x n0 sl0 (some (pI out.1)) out.2) (hn : xn x = 3) (fu : Nat)   (a0 : Nat) (a1 : Int32) (a2 : Int32)  (M : Mm) (h : fX11_damage_L35 fu  a0 a1 a2 M = some out) : Gw x M 35 [(0, pR (some a0)), (1, pI a1), (2, pI a2)] [] := by
  unfold fX11_damage_L35 at h
  refine g_aload_n X (pc := 35) 0 rfl rfl dX11_damage_35 ?_
  obtain ⟨v1, ev1, h⟩ := bd h
  refine g_getR X (pc := 36) fk_11_0 rfl rfl ev1 tb_314 dX11_damage_36 ?_
  obtain ⟨v2, ev2, h⟩ := bd h
  refine g_getR X (pc := 39) fk_8_0 rfl rfl ev2 tb_41 dX11_damage_39 ?_
  refine g_iload_n X (pc := 42) 1 rfl rfl dX11_damage_42 ?_
  refine g_iload_n X (pc := 43) 2 rfl rfl dX11_damage_43 ?_
  refine g_i2b X (pc := 44) dX11_damage_44 ?_
  obtain ⟨M3, eM3, h⟩ := bd h
  refine g_bastore X (pc := 45) eM3 dX11_damage_45 ?_
  refine g_iconst X (pc := 46) (v := 1) dX11_damage_46 (by decide) ?_
  obtain ⟨hz, rfl⟩ := rN_some h
  exact g_nreturn X rfl hz hE dX11_damage_47
theorem wX11_damage {x : GX} {n0 sl0 : Nat} (X : Cx x cX11_damage RX11 (some .boolean) n0 sl0 4 82) {out : Int32 × Mm} (hE : Ends x n0 sl0 (some (pI out.1)) out.2) (hn : xn x = 3) (fu : Nat)   (a0 : Nat) (a1 : Int32) (a2 : Int32)  (M : Mm) (h : fX11_damage fu  a0 a1 a2 M = some out) : Gw x M 0 [(0, pR (some a0)), (1, pI a1), (2, pI a2)] [] := by
  unfold fX11_damage at h
  refine g_iload_n X (pc := 0) 1 rfl rfl dX11_damage_0 ?_
  refine g_if_lt X (pc := 1) (tgt := 33) dX11_damage_1 (by decide) (fun hc => ?_) (fun hc => ?_)
  · have h := (if_pos hc).symm.trans h
    refine g_iconst X (pc := 33) (v := 0) dX11_damage_33 (by decide) ?_
    obtain ⟨hz, rfl⟩ := rN_some h
    exact g_nreturn X rfl hz hE dX11_damage_34
  · have h := (if_neg hc).symm.trans h
    refine g_iload_n X (pc := 4) 1 rfl rfl dX11_damage_4 ?_
    refine g_aload_n X (pc := 5) 0 rfl rfl dX11_damage_5 ?_
    obtain ⟨v1, ev1, h⟩ := bd h
    refine g_getR X (pc := 6) fk_11_0 rfl rfl ev1 tb_314 dX11_damage_6 ?_
    obtain ⟨v2, ev2, h⟩ := bd h
    refine g_getR X (pc := 9) fk_8_0 rfl rfl ev2 tb_41 dX11_damage_9 ?_
    obtain ⟨v3, ev3, h⟩ := bd h
    refine g_alen X (pc := 12) (k := 0) rfl (by decide) ev3 dX11_damage_12 ?_
    refine g_icmp_ge X (pc := 13) (tgt := 33) dX11_damage_13 (by decide) (fun hc => ?_) (fun hc => ?_)
    · have h := (if_pos hc).symm.trans h
      refine g_iconst X (pc := 33) (v := 0) dX11_damage_33 (by decide) ?_
      obtain ⟨hz, rfl⟩ := rN_some h
      exact g_nreturn X rfl hz hE dX11_damage_34
    · have h := (if_neg hc).symm.trans h
      refine g_aload_n X (pc := 16) 0 rfl rfl dX11_damage_16 ?_
      obtain ⟨v4, ev4, h⟩ := bd h
      refine g_getI X (pc := 17) fk_11_8 rfl rfl ev4 tb_322 dX11_damage_17 ?_
      refine g_if_eq X (pc := 20) (tgt := 35) dX11_damage_20 (by decide) (fun hc => ?_) (fun hc => ?_)
      · have h := (if_pos hc).symm.trans h
        exact wX11_damage_L35 X hE hn fu   a0 a1 a2 M h
      · have h := (if_neg hc).symm.trans h
        refine g_aload_n X (pc := 23) 0 rfl rfl dX11_damage_23 ?_
        obtain ⟨v5, ev5, h⟩ := bd h
        refine g_getR X (pc := 24) fk_11_4 rfl rfl ev5 tb_318 dX11_damage_24 ?_
        obtain ⟨q6, eq6, h⟩ := bd h
        obtain ⟨v8, M7, eM7, h⟩ := b2d h
        refine g_callV X (pc := 27) (M' := M7) (ro := some (pI v8)) (c := 9) rfl (by decide) (as := []) (as' := []) (st := []) eq6 (ctX9_isBusy _ _ _ _ _ _ fu q6  M _ eM7) tb_1552 tb_1549 tb_1550 tb_1551 tb_6 ⟨rfl, hyX9_isBusy⟩ rfl rfl ⟨by decide, by decide⟩ (Nat.le_of_ble_eq_true rfl) dX11_damage_27 ?_
        refine g_if_eq X (pc := 30) (tgt := 35) dX11_damage_30 (by decide) (fun hc => ?_) (fun hc => ?_)
        · have h := (if_pos hc).symm.trans h
          exact wX11_damage_L35 X hE hn fu   a0 a1 a2 M7 h
        · have h := (if_neg hc).symm.trans h
          refine g_iconst X (pc := 33) (v := 0) dX11_damage_33 (by decide) ?_
          obtain ⟨hz, rfl⟩ := rN_some h
          exact g_nreturn X rfl hz hE dX11_damage_34
theorem hyX11_damage : yX11_damage.cls ≠ "java/lang/invoke/MethodHandle" ∧ yX11_damage.cls ≠ "java/lang/invoke/VarHandle" ∧ (parseMethodDescriptor yX11_damage.desc).map (fun d => d.parameters.length) = some 2 := ⟨by decide +kernel, by decide +kernel, by decide +kernel⟩
theorem ctX11_damage (l : Launch) (E : Nat → Nat) (D : va_G) (dA : Nat → ClassId) (lo : Nat) (H0 : Heap) (fu : Nat) (a0 : Nat) (a1 : Int32) (a2 : Int32) (M : Mm) (out : Int32 × Mm) (h : fX11_damage fu a0 a1 a2 M = some out) : Ct l E D dA lo H0 yX11_damage cX11_damage 3 (some .boolean) 4 82 [pR (some a0), pI a1, pI a2] M (some (pI out.1)) out.2 := by
  refine ct_of (by decide +kernel) (Nat.le_of_ble_eq_true rfl) ?_
  intro x hl he hd ha ho hh hn hin X hE
  exact wX11_damage X hE hn fu a0 a1 a2 M h
/-! WebHost.strays()I -/
def fX11_strays (fu : Nat)  (a0 : Nat)  (M : Mm) : Option (Int32 × Mm) :=
    (gI M 11 712 (some a0)).bind fun v1 =>
    if v1 = 0 then (
    some ((0 : Int32), M))
    else (
    (gR M 11 705 (some a0)).bind fun v2 =>
    (gI M 10 643 v2).bind fun v3 =>
    some (v3, M))
theorem dX11_strays_0 : decode cX11_strays 0 = .ok (.aload_n 0, 1) := by decide +kernel
theorem dX11_strays_1 : decode cX11_strays 1 = .ok (.getfield 89, 3) := by decide +kernel
theorem dX11_strays_4 : decode cX11_strays 4 = .ok (.ifCond .eq 13, 3) := by decide +kernel
theorem dX11_strays_7 : decode cX11_strays 7 = .ok (.aload_n 0, 1) := by decide +kernel
theorem dX11_strays_8 : decode cX11_strays 8 = .ok (.getfield 19, 3) := by decide +kernel
theorem dX11_strays_11 : decode cX11_strays 11 = .ok (.getfield 200, 3) := by decide +kernel
theorem dX11_strays_14 : decode cX11_strays 14 = .ok (.goto 4, 3) := by decide +kernel
theorem dX11_strays_17 : decode cX11_strays 17 = .ok (.iconst 0, 1) := by decide +kernel
theorem dX11_strays_18 : decode cX11_strays 18 = .ok (.ireturn, 1) := by decide +kernel
theorem wX11_strays {x : GX} {n0 sl0 : Nat} (X : Cx x cX11_strays RX11 (some .int) n0 sl0 0 0) {out : Int32 × Mm} (hE : Ends x n0 sl0 (some (pI out.1)) out.2) (hn : xn x = 1) (fu : Nat)   (a0 : Nat)  (M : Mm) (h : fX11_strays fu  a0 M = some out) : Gw x M 0 [(0, pR (some a0))] [] := by
  unfold fX11_strays at h
  refine g_aload_n X (pc := 0) 0 rfl rfl dX11_strays_0 ?_
  obtain ⟨v1, ev1, h⟩ := bd h
  refine g_getI X (pc := 1) fk_11_8 rfl rfl ev1 tb_322 dX11_strays_1 ?_
  refine g_if_eq X (pc := 4) (tgt := 17) dX11_strays_4 (by decide) (fun hc => ?_) (fun hc => ?_)
  · have h := (if_pos hc).symm.trans h
    refine g_iconst X (pc := 17) (v := 0) dX11_strays_17 (by decide) ?_
    obtain rfl := Option.some.inj h
    exact g_ireturn X hE dX11_strays_18
  · have h := (if_neg hc).symm.trans h
    refine g_aload_n X (pc := 7) 0 rfl rfl dX11_strays_7 ?_
    obtain ⟨v2, ev2, h⟩ := bd h
    refine g_getR X (pc := 8) fk_11_1 rfl rfl ev2 tb_315 dX11_strays_8 ?_
    obtain ⟨v3, ev3, h⟩ := bd h
    refine g_getI X (pc := 11) fk_10_3 rfl rfl ev3 tb_75 dX11_strays_11 ?_
    refine g_goto X (pc := 14) (tgt := 18) dX11_strays_14 (by decide) ?_
    obtain rfl := Option.some.inj h
    exact g_ireturn X hE dX11_strays_18
theorem hyX11_strays : yX11_strays.cls ≠ "java/lang/invoke/MethodHandle" ∧ yX11_strays.cls ≠ "java/lang/invoke/VarHandle" ∧ (parseMethodDescriptor yX11_strays.desc).map (fun d => d.parameters.length) = some 0 := ⟨by decide +kernel, by decide +kernel, by decide +kernel⟩
theorem ctX11_strays (l : Launch) (E : Nat → Nat) (D : va_G) (dA : Nat → ClassId) (lo : Nat) (H0 : Heap) (fu : Nat) (a0 : Nat) (M : Mm) (out : Int32 × Mm) (h : fX11_strays fu a0 M = some out) : Ct l E D dA lo H0 yX11_strays cX11_strays 1 (some .int) 0 0 [pR (some a0)] M (some (pI out.1)) out.2 := by
  refine ct_of (by decide +kernel) (Nat.le_of_ble_eq_true rfl) ?_
  intro x hl he hd ha ho hh hn hin X hE
  exact wX11_strays X hE hn fu a0 M h
/-! WebHostModel$Connection.<init>()V -/
def fX12_init (fu : Nat)  (a0 : Nat)  (M : Mm) : Option (Mm) :=
    b2 (mkA M 100 (512 : Int32)) fun v1 M2 =>
    (pG M2 12 793 (some a0) (some v1)).bind fun M3 =>
    b2 (mkA M3 100 (4096 : Int32)) fun v4 M5 =>
    (pG M5 12 800 (some a0) (some v4)).bind fun M6 =>
    b2 (mkA M6 102 (4096 : Int32)) fun v7 M8 =>
    (pG M8 12 801 (some a0) (some v7)).bind fun M9 =>
    some M9
theorem dX12_init_0 : decode cX12_init 0 = .ok (.aload_n 0, 1) := by decide +kernel
theorem dX12_init_1 : decode cX12_init 1 = .ok (.invokespecial 3, 3) := by decide +kernel
theorem dX12_init_4 : decode cX12_init 4 = .ok (.aload_n 0, 1) := by decide +kernel
theorem dX12_init_5 : decode cX12_init 5 = .ok (.sipush 512, 3) := by decide +kernel
theorem dX12_init_8 : decode cX12_init 8 = .ok (.newarray .byte, 2) := by decide +kernel
theorem dX12_init_10 : decode cX12_init 10 = .ok (.putfield 9, 3) := by decide +kernel
theorem dX12_init_13 : decode cX12_init 13 = .ok (.aload_n 0, 1) := by decide +kernel
theorem dX12_init_14 : decode cX12_init 14 = .ok (.sipush 4096, 3) := by decide +kernel
theorem dX12_init_17 : decode cX12_init 17 = .ok (.newarray .byte, 2) := by decide +kernel
theorem dX12_init_19 : decode cX12_init 19 = .ok (.putfield 15, 3) := by decide +kernel
theorem dX12_init_22 : decode cX12_init 22 = .ok (.aload_n 0, 1) := by decide +kernel
theorem dX12_init_23 : decode cX12_init 23 = .ok (.sipush 4096, 3) := by decide +kernel
theorem dX12_init_26 : decode cX12_init 26 = .ok (.newarray .boolean, 2) := by decide +kernel
theorem dX12_init_28 : decode cX12_init 28 = .ok (.putfield 18, 3) := by decide +kernel
theorem dX12_init_31 : decode cX12_init 31 = .ok (.return_, 1) := by decide +kernel
theorem wX12_init {x : GX} {n0 sl0 : Nat} (X : Cx x cX12_init RX12 none n0 sl0 1 12) {out : Mm} (hE : Ends x n0 sl0 none out) (hn : xn x = 1) (hin : (xt x).name = "<init>") (fu : Nat)   (a0 : Nat)  (M : Mm) (h : fX12_init fu  a0 M = some out) : Gw x M 0 [(0, pR (some a0))] [] := by
  unfold fX12_init at h
  refine g_aload_n X (pc := 0) 0 rfl rfl dX12_init_0 ?_
  refine g_objInit X (pc := 1) (o := (some a0)) ⟨_, rfl⟩ tb_1579 tb_32 tb_33 ⟨by decide, Nat.le_of_ble_eq_true rfl⟩ dX12_init_1 ?_
  refine g_aload_n X (pc := 4) 0 rfl rfl dX12_init_4 ?_
  refine g_sipush X (pc := 5) (v := 512) dX12_init_5 (by decide) ?_
  obtain ⟨v1, M2, eM2, h⟩ := b2d h
  refine g_newarray X (pc := 8) (at9 := .byte) (k := 0) rfl (by decide) rfl (by decide) (fun _ _ q => q) tb_53 eM2 dX12_init_8 ?_
  obtain ⟨M3, eM3, h⟩ := bd h
  refine g_putG X (pc := 10) fk_12_25 rfl rfl rfl eM3 tb_1605 (Or.inr ⟨rfl, hin, rfl⟩) dX12_init_10 ?_
  refine g_aload_n X (pc := 13) 0 rfl rfl dX12_init_13 ?_
  refine g_sipush X (pc := 14) (v := 4096) dX12_init_14 (by decide) ?_
  obtain ⟨v4, M5, eM5, h⟩ := b2d h
  refine g_newarray X (pc := 17) (at9 := .byte) (k := 0) rfl (by decide) rfl (by decide) (fun _ _ q => q) tb_53 eM5 dX12_init_17 ?_
  obtain ⟨M6, eM6, h⟩ := bd h
  refine g_putG X (pc := 19) fk_12_32 rfl rfl rfl eM6 tb_1617 (Or.inr ⟨rfl, hin, rfl⟩) dX12_init_19 ?_
  refine g_aload_n X (pc := 22) 0 rfl rfl dX12_init_22 ?_
  refine g_sipush X (pc := 23) (v := 4096) dX12_init_23 (by decide) ?_
  obtain ⟨v7, M8, eM8, h⟩ := b2d h
  refine g_newarray X (pc := 26) (at9 := .boolean) (k := 2) rfl (by decide) rfl (by decide) (fun _ _ q => q) tb_1729 eM8 dX12_init_26 ?_
  obtain ⟨M9, eM9, h⟩ := bd h
  refine g_putG X (pc := 28) fk_12_33 rfl rfl rfl eM9 tb_1619 (Or.inr ⟨rfl, hin, rfl⟩) dX12_init_28 ?_
  obtain rfl := Option.some.inj h
  exact g_return X hE dX12_init_31
theorem hyX12_init : yX12_init.cls ≠ "java/lang/invoke/MethodHandle" ∧ yX12_init.cls ≠ "java/lang/invoke/VarHandle" ∧ (parseMethodDescriptor yX12_init.desc).map (fun d => d.parameters.length) = some 0 := ⟨by decide +kernel, by decide +kernel, by decide +kernel⟩
theorem ctX12_init (l : Launch) (E : Nat → Nat) (D : va_G) (dA : Nat → ClassId) (lo : Nat) (H0 : Heap) (fu : Nat) (a0 : Nat) (M : Mm) (out : Mm) (h : fX12_init fu a0 M = some out) : Ct l E D dA lo H0 yX12_init cX12_init 1 none 1 12 [pR (some a0)] M none out := by
  refine ct_of (by decide +kernel) (Nat.le_of_ble_eq_true rfl) ?_
  intro x hl he hd ha ho hh hn hin X hE
  exact wX12_init X hE hn hin fu a0 M h
/-! WebHostModel$Connection.behind()I -/
def fX12_behind (fu : Nat)  (a0 : Nat)  (M : Mm) : Option (Int32 × Mm) :=
    (gI M 12 797 (some a0)).bind fun v1 =>
    (gI M 12 794 (some a0)).bind fun v2 =>
    (gI M 12 796 (some a0)).bind fun v3 =>
    some (((v1 + v2) + v3), M)
theorem dX12_behind_0 : decode cX12_behind 0 = .ok (.aload_n 0, 1) := by decide +kernel
theorem dX12_behind_1 : decode cX12_behind 1 = .ok (.getfield 22, 3) := by decide +kernel
theorem dX12_behind_4 : decode cX12_behind 4 = .ok (.aload_n 0, 1) := by decide +kernel
theorem dX12_behind_5 : decode cX12_behind 5 = .ok (.getfield 26, 3) := by decide +kernel
theorem dX12_behind_8 : decode cX12_behind 8 = .ok (.iadd, 1) := by decide +kernel
theorem dX12_behind_9 : decode cX12_behind 9 = .ok (.aload_n 0, 1) := by decide +kernel
theorem dX12_behind_10 : decode cX12_behind 10 = .ok (.getfield 29, 3) := by decide +kernel
theorem dX12_behind_13 : decode cX12_behind 13 = .ok (.iadd, 1) := by decide +kernel
theorem dX12_behind_14 : decode cX12_behind 14 = .ok (.ireturn, 1) := by decide +kernel
theorem wX12_behind {x : GX} {n0 sl0 : Nat} (X : Cx x cX12_behind RX12 (some .int) n0 sl0 0 0) {out : Int32 × Mm} (hE : Ends x n0 sl0 (some (pI out.1)) out.2) (hn : xn x = 1) (fu : Nat)   (a0 : Nat)  (M : Mm) (h : fX12_behind fu  a0 M = some out) : Gw x M 0 [(0, pR (some a0))] [] := by
  unfold fX12_behind at h
  refine g_aload_n X (pc := 0) 0 rfl rfl dX12_behind_0 ?_
  obtain ⟨v1, ev1, h⟩ := bd h
  refine g_getI X (pc := 1) fk_12_29 rfl rfl ev1 tb_1612 dX12_behind_1 ?_
  refine g_aload_n X (pc := 4) 0 rfl rfl dX12_behind_4 ?_
  obtain ⟨v2, ev2, h⟩ := bd h
  refine g_getI X (pc := 5) fk_12_26 rfl rfl ev2 tb_1607 dX12_behind_5 ?_
  refine g_iadd X (pc := 8) dX12_behind_8 ?_
  refine g_aload_n X (pc := 9) 0 rfl rfl dX12_behind_9 ?_
  obtain ⟨v3, ev3, h⟩ := bd h
  refine g_getI X (pc := 10) fk_12_28 rfl rfl ev3 tb_1610 dX12_behind_10 ?_
  refine g_iadd X (pc := 13) dX12_behind_13 ?_
  obtain rfl := Option.some.inj h
  exact g_ireturn X hE dX12_behind_14
theorem hyX12_behind : yX12_behind.cls ≠ "java/lang/invoke/MethodHandle" ∧ yX12_behind.cls ≠ "java/lang/invoke/VarHandle" ∧ (parseMethodDescriptor yX12_behind.desc).map (fun d => d.parameters.length) = some 0 := ⟨by decide +kernel, by decide +kernel, by decide +kernel⟩
theorem ctX12_behind (l : Launch) (E : Nat → Nat) (D : va_G) (dA : Nat → ClassId) (lo : Nat) (H0 : Heap) (fu : Nat) (a0 : Nat) (M : Mm) (out : Int32 × Mm) (h : fX12_behind fu a0 M = some out) : Ct l E D dA lo H0 yX12_behind cX12_behind 1 (some .int) 0 0 [pR (some a0)] M (some (pI out.1)) out.2 := by
  refine ct_of (by decide +kernel) (Nat.le_of_ble_eq_true rfl) ?_
  intro x hl he hd ha ho hh hn hin X hE
  exact wX12_behind X hE hn fu a0 M h
/-! WebHostModel$Connection.left(I)I -/
def fX12_left (fu : Nat)  (a0 : Nat) (a1 : Int32)  (M : Mm) : Option (Int32 × Mm) :=
    (rc M 12 (some a0)).bind fun q1 =>
    b2 (fX12_behind fu q1  M) fun v3 M2 =>
    (gI M2 12 798 (some a0)).bind fun v4 =>
    if v4 = 0 then (
    some (((v3 + (0 : Int32)) - a1), M2))
    else (
    some (((v3 + (1 : Int32)) - a1), M2))
theorem dX12_left_0 : decode cX12_left 0 = .ok (.aload_n 0, 1) := by decide +kernel
theorem dX12_left_1 : decode cX12_left 1 = .ok (.invokevirtual 32, 3) := by decide +kernel
theorem dX12_left_4 : decode cX12_left 4 = .ok (.aload_n 0, 1) := by decide +kernel
theorem dX12_left_5 : decode cX12_left 5 = .ok (.getfield 36, 3) := by decide +kernel
theorem dX12_left_8 : decode cX12_left 8 = .ok (.ifCond .eq 7, 3) := by decide +kernel
theorem dX12_left_11 : decode cX12_left 11 = .ok (.iconst 1, 1) := by decide +kernel
theorem dX12_left_12 : decode cX12_left 12 = .ok (.goto 4, 3) := by decide +kernel
theorem dX12_left_15 : decode cX12_left 15 = .ok (.iconst 0, 1) := by decide +kernel
theorem dX12_left_16 : decode cX12_left 16 = .ok (.iadd, 1) := by decide +kernel
theorem dX12_left_17 : decode cX12_left 17 = .ok (.iload_n 1, 1) := by decide +kernel
theorem dX12_left_18 : decode cX12_left 18 = .ok (.isub, 1) := by decide +kernel
theorem dX12_left_19 : decode cX12_left 19 = .ok (.ireturn, 1) := by decide +kernel
theorem wX12_left {x : GX} {n0 sl0 : Nat} (X : Cx x cX12_left RX12 (some .int) n0 sl0 1 20) {out : Int32 × Mm} (hE : Ends x n0 sl0 (some (pI out.1)) out.2) (hn : xn x = 2) (fu : Nat)   (a0 : Nat) (a1 : Int32)  (M : Mm) (h : fX12_left fu  a0 a1 M = some out) : Gw x M 0 [(0, pR (some a0)), (1, pI a1)] [] := by
  unfold fX12_left at h
  refine g_aload_n X (pc := 0) 0 rfl rfl dX12_left_0 ?_
  obtain ⟨q1, eq1, h⟩ := bd h
  obtain ⟨v3, M2, eM2, h⟩ := b2d h
  refine g_callV X (pc := 1) (M' := M2) (ro := some (pI v3)) (c := 12) rfl (by decide) (as := []) (as' := []) (st := []) eq1 (ctX12_behind _ _ _ _ _ _ fu q1  M _ eM2) tb_2074 tb_2071 tb_2072 tb_2073 tb_9 ⟨rfl, hyX12_behind⟩ rfl rfl ⟨by decide, by decide⟩ (Nat.le_of_ble_eq_true rfl) dX12_left_1 ?_
  refine g_aload_n X (pc := 4) 0 rfl rfl dX12_left_4 ?_
  obtain ⟨v4, ev4, h⟩ := bd h
  refine g_getI X (pc := 5) fk_12_30 rfl rfl ev4 tb_1614 dX12_left_5 ?_
  refine g_if_eq X (pc := 8) (tgt := 15) dX12_left_8 (by decide) (fun hc => ?_) (fun hc => ?_)
  · have h := (if_pos hc).symm.trans h
    refine g_iconst X (pc := 15) (v := 0) dX12_left_15 (by decide) ?_
    refine g_iadd X (pc := 16) dX12_left_16 ?_
    refine g_iload_n X (pc := 17) 1 rfl rfl dX12_left_17 ?_
    refine g_isub X (pc := 18) dX12_left_18 ?_
    obtain rfl := Option.some.inj h
    exact g_ireturn X hE dX12_left_19
  · have h := (if_neg hc).symm.trans h
    refine g_iconst X (pc := 11) (v := 1) dX12_left_11 (by decide) ?_
    refine g_goto X (pc := 12) (tgt := 16) dX12_left_12 (by decide) ?_
    refine g_iadd X (pc := 16) dX12_left_16 ?_
    refine g_iload_n X (pc := 17) 1 rfl rfl dX12_left_17 ?_
    refine g_isub X (pc := 18) dX12_left_18 ?_
    obtain rfl := Option.some.inj h
    exact g_ireturn X hE dX12_left_19
theorem hyX12_left : yX12_left.cls ≠ "java/lang/invoke/MethodHandle" ∧ yX12_left.cls ≠ "java/lang/invoke/VarHandle" ∧ (parseMethodDescriptor yX12_left.desc).map (fun d => d.parameters.length) = some 1 := ⟨by decide +kernel, by decide +kernel, by decide +kernel⟩
theorem ctX12_left (l : Launch) (E : Nat → Nat) (D : va_G) (dA : Nat → ClassId) (lo : Nat) (H0 : Heap) (fu : Nat) (a0 : Nat) (a1 : Int32) (M : Mm) (out : Int32 × Mm) (h : fX12_left fu a0 a1 M = some out) : Ct l E D dA lo H0 yX12_left cX12_left 2 (some .int) 1 20 [pR (some a0), pI a1] M (some (pI out.1)) out.2 := by
  refine ct_of (by decide +kernel) (Nat.le_of_ble_eq_true rfl) ?_
  intro x hl he hd ha ho hh hn hin X hE
  exact wX12_left X hE hn fu a0 a1 M h
