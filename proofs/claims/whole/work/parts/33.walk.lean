/-! ===== walks of methods, printed by a program of ours ===== -/
/-! WebHost$Tcp.runOut(LWebHost$Connection;)V -/
def fX9_runOut_L185 (fu : Nat)  (a0 : Nat) (a1 : Option Nat) (s0 : Int32) (M : Mm) : Option (Mm) :=
    (gI M 1 69 a1).bind fun v1 =>
    (rc M 9 (some a0)).bind fun q2 =>
    (fX9_sendPart fu q2 a1 v1 s0 M).bind fun M3 =>
    (rc M3 1 a1).bind fun q4 =>
    (fX1_advance fu q4 s0 M3).bind fun M5 =>
    some M5
def fX9_runOut_L96 (fu : Nat)  (a0 : Nat) (a1 : Option Nat) (a2 : Int32)  (M : Mm) : Option (Mm) :=
    (gR M 1 81 a1).bind fun v1 =>
    (rc M 5 v1).bind fun q2 =>
    (fX5_backOff fu q2  M).bind fun M3 =>
    (gR M3 1 81 a1).bind fun v4 =>
    (gR M3 9 576 (some a0)).bind fun v5 =>
    (gI M3 10 641 v5).bind fun v6 =>
    (gR M3 1 81 a1).bind fun v7 =>
    (gI M3 5 323 v7).bind fun v8 =>
    (pF M3 5 324 v4 (v6 + v8)).bind fun M9 =>
    if a2 = 0 then (
    (gI M9 1 68 a1).bind fun v10 =>
    (pF M9 1 69 a1 v10).bind fun M11 =>
    (gI M11 1 71 a1).bind fun v12 =>
    if v12 = 0 then (
    fX9_runOut_L185 fu  a0 a1 (1 : Int32) M11)
    else (
    (rc M11 1 a1).bind fun q13 =>
    b2 (fX1_mayGo fu q13  M11) fun v15 M14 =>
    fX9_runOut_L185 fu  a0 a1 v15 M14))
    else (
    (gR M9 9 576 (some a0)).bind fun v16 =>
    (gR M9 10 640 v16).bind fun v17 =>
    (gA M9 101 v17 (3 : Int32)).bind fun v18 =>
    (pA M9 101 v17 (3 : Int32) (v18 + (1 : Int32))).bind fun M19 =>
    (gR M19 1 81 a1).bind fun v20 =>
    (pZ M19 5 328 v20 (0 : Int32)).bind fun M21 =>
    (gI M21 1 67 a1).bind fun v22 =>
    (rc M21 9 (some a0)).bind fun q23 =>
    (fX9_sendPlain fu q23 a1 v22 (18 : Int32) M21).bind fun M24 =>
    some M24)
def fX9_runOut_L44 (fu : Nat)  (a0 : Nat) (a1 : Option Nat) (a2 : Int32) (s0 : Int32) (s1 : Int32) (M : Mm) : Option (Mm) :=
    if s0 ≤ s1 then (
    if a2 = 0 then (
    (gR M 1 81 a1).bind fun v1 =>
    (gI M 1 70 a1).bind fun v2 =>
    (gI M 1 68 a1).bind fun v3 =>
    (rc M 5 v1).bind fun q4 =>
    (fX5_lowerThreshold fu q4 (v2 - v3) M).bind fun M5 =>
    fX9_runOut_L96 fu  a0 a1 a2 M5)
    else (
    fX9_runOut_L96 fu  a0 a1 a2 M))
    else (
    (gR M 9 576 (some a0)).bind fun v6 =>
    (gR M 10 640 v6).bind fun v7 =>
    (gA M 101 v7 (2 : Int32)).bind fun v8 =>
    (pA M 101 v7 (2 : Int32) (v8 + (1 : Int32))).bind fun M9 =>
    (gI M9 1 69 a1).bind fun v10 =>
    (rc M9 9 (some a0)).bind fun q11 =>
    (fX9_sendPlain fu q11 a1 v10 (20 : Int32) M9).bind fun M12 =>
    (rc M12 1 a1).bind fun q13 =>
    (fX1_leave fu q13  M12).bind fun M14 =>
    some M14)
def fX9_runOut_L13 (fu : Nat)  (a0 : Nat) (a1 : Option Nat) (s0 : Int32) (M : Mm) : Option (Mm) :=
    (gR M 1 81 a1).bind fun v1 =>
    (gI M 5 325 v1).bind fun v2 =>
    (pF M 5 325 v1 (v2 + (1 : Int32))).bind fun M3 =>
    (gR M3 1 81 a1).bind fun v4 =>
    (gI M3 5 325 v4).bind fun v5 =>
    if s0 = 0 then (
    fX9_runOut_L44 fu  a0 a1 s0 v5 (8 : Int32) M3)
    else (
    fX9_runOut_L44 fu  a0 a1 s0 v5 (5 : Int32) M3)
def fX9_runOut (fu : Nat)  (a0 : Nat) (a1 : Option Nat)  (M : Mm) : Option (Mm) :=
    (gI M 1 64 a1).bind fun v1 =>
    if v1 = (1 : Int32) then (
    fX9_runOut_L13 fu  a0 a1 (1 : Int32) M)
    else (
    fX9_runOut_L13 fu  a0 a1 (0 : Int32) M)
theorem dX9_runOut_0 : decode cX9_runOut 0 = .ok (.aload_n 1, 1) := by decide +kernel
theorem dX9_runOut_1 : decode cX9_runOut 1 = .ok (.getfield 36, 3) := by decide +kernel
theorem dX9_runOut_4 : decode cX9_runOut 4 = .ok (.iconst 1, 1) := by decide +kernel
theorem dX9_runOut_5 : decode cX9_runOut 5 = .ok (.if_icmp .ne 7, 3) := by decide +kernel
theorem dX9_runOut_8 : decode cX9_runOut 8 = .ok (.iconst 1, 1) := by decide +kernel
theorem dX9_runOut_9 : decode cX9_runOut 9 = .ok (.goto 4, 3) := by decide +kernel
theorem dX9_runOut_12 : decode cX9_runOut 12 = .ok (.iconst 0, 1) := by decide +kernel
theorem dX9_runOut_13 : decode cX9_runOut 13 = .ok (.istore_n 2, 1) := by decide +kernel
theorem dX9_runOut_14 : decode cX9_runOut 14 = .ok (.aload_n 1, 1) := by decide +kernel
theorem dX9_runOut_15 : decode cX9_runOut 15 = .ok (.getfield 49, 3) := by decide +kernel
theorem dX9_runOut_18 : decode cX9_runOut 18 = .ok (.dup, 1) := by decide +kernel
theorem dX9_runOut_19 : decode cX9_runOut 19 = .ok (.getfield 215, 3) := by decide +kernel
theorem dX9_runOut_22 : decode cX9_runOut 22 = .ok (.iconst 1, 1) := by decide +kernel
theorem dX9_runOut_23 : decode cX9_runOut 23 = .ok (.iadd, 1) := by decide +kernel
theorem dX9_runOut_24 : decode cX9_runOut 24 = .ok (.putfield 215, 3) := by decide +kernel
theorem dX9_runOut_27 : decode cX9_runOut 27 = .ok (.aload_n 1, 1) := by decide +kernel
theorem dX9_runOut_28 : decode cX9_runOut 28 = .ok (.getfield 49, 3) := by decide +kernel
theorem dX9_runOut_31 : decode cX9_runOut 31 = .ok (.getfield 215, 3) := by decide +kernel
theorem dX9_runOut_34 : decode cX9_runOut 34 = .ok (.iload_n 2, 1) := by decide +kernel
theorem dX9_runOut_35 : decode cX9_runOut 35 = .ok (.ifCond .eq 7, 3) := by decide +kernel
theorem dX9_runOut_38 : decode cX9_runOut 38 = .ok (.iconst 5, 1) := by decide +kernel
theorem dX9_runOut_39 : decode cX9_runOut 39 = .ok (.goto 5, 3) := by decide +kernel
theorem dX9_runOut_42 : decode cX9_runOut 42 = .ok (.bipush 8, 2) := by decide +kernel
theorem dX9_runOut_44 : decode cX9_runOut 44 = .ok (.if_icmp .le 32, 3) := by decide +kernel
theorem dX9_runOut_47 : decode cX9_runOut 47 = .ok (.aload_n 0, 1) := by decide +kernel
theorem dX9_runOut_48 : decode cX9_runOut 48 = .ok (.getfield 9, 3) := by decide +kernel
theorem dX9_runOut_51 : decode cX9_runOut 51 = .ok (.getfield 140, 3) := by decide +kernel
theorem dX9_runOut_54 : decode cX9_runOut 54 = .ok (.iconst 2, 1) := by decide +kernel
theorem dX9_runOut_55 : decode cX9_runOut 55 = .ok (.dup2, 1) := by decide +kernel
theorem dX9_runOut_56 : decode cX9_runOut 56 = .ok (.iaload, 1) := by decide +kernel
theorem dX9_runOut_57 : decode cX9_runOut 57 = .ok (.iconst 1, 1) := by decide +kernel
theorem dX9_runOut_58 : decode cX9_runOut 58 = .ok (.iadd, 1) := by decide +kernel
theorem dX9_runOut_59 : decode cX9_runOut 59 = .ok (.iastore, 1) := by decide +kernel
theorem dX9_runOut_60 : decode cX9_runOut 60 = .ok (.aload_n 0, 1) := by decide +kernel
theorem dX9_runOut_61 : decode cX9_runOut 61 = .ok (.aload_n 1, 1) := by decide +kernel
theorem dX9_runOut_62 : decode cX9_runOut 62 = .ok (.aload_n 1, 1) := by decide +kernel
theorem dX9_runOut_63 : decode cX9_runOut 63 = .ok (.getfield 115, 3) := by decide +kernel
theorem dX9_runOut_66 : decode cX9_runOut 66 = .ok (.bipush 20, 2) := by decide +kernel
theorem dX9_runOut_68 : decode cX9_runOut 68 = .ok (.invokevirtual 118, 3) := by decide +kernel
theorem dX9_runOut_71 : decode cX9_runOut 71 = .ok (.aload_n 1, 1) := by decide +kernel
theorem dX9_runOut_72 : decode cX9_runOut 72 = .ok (.invokevirtual 33, 3) := by decide +kernel
theorem dX9_runOut_75 : decode cX9_runOut 75 = .ok (.return_, 1) := by decide +kernel
theorem dX9_runOut_76 : decode cX9_runOut 76 = .ok (.iload_n 2, 1) := by decide +kernel
theorem dX9_runOut_77 : decode cX9_runOut 77 = .ok (.ifCond .ne 19, 3) := by decide +kernel
theorem dX9_runOut_80 : decode cX9_runOut 80 = .ok (.aload_n 1, 1) := by decide +kernel
theorem dX9_runOut_81 : decode cX9_runOut 81 = .ok (.getfield 49, 3) := by decide +kernel
theorem dX9_runOut_84 : decode cX9_runOut 84 = .ok (.aload_n 1, 1) := by decide +kernel
theorem dX9_runOut_85 : decode cX9_runOut 85 = .ok (.getfield 191, 3) := by decide +kernel
theorem dX9_runOut_88 : decode cX9_runOut 88 = .ok (.aload_n 1, 1) := by decide +kernel
theorem dX9_runOut_89 : decode cX9_runOut 89 = .ok (.getfield 194, 3) := by decide +kernel
theorem dX9_runOut_92 : decode cX9_runOut 92 = .ok (.isub, 1) := by decide +kernel
theorem dX9_runOut_93 : decode cX9_runOut 93 = .ok (.invokevirtual 250, 3) := by decide +kernel
theorem dX9_runOut_96 : decode cX9_runOut 96 = .ok (.aload_n 1, 1) := by decide +kernel
theorem dX9_runOut_97 : decode cX9_runOut 97 = .ok (.getfield 49, 3) := by decide +kernel
theorem dX9_runOut_100 : decode cX9_runOut 100 = .ok (.invokevirtual 253, 3) := by decide +kernel
theorem dX9_runOut_103 : decode cX9_runOut 103 = .ok (.aload_n 1, 1) := by decide +kernel
theorem dX9_runOut_104 : decode cX9_runOut 104 = .ok (.getfield 49, 3) := by decide +kernel
theorem dX9_runOut_107 : decode cX9_runOut 107 = .ok (.aload_n 0, 1) := by decide +kernel
theorem dX9_runOut_108 : decode cX9_runOut 108 = .ok (.getfield 9, 3) := by decide +kernel
theorem dX9_runOut_111 : decode cX9_runOut 111 = .ok (.getfield 147, 3) := by decide +kernel
theorem dX9_runOut_114 : decode cX9_runOut 114 = .ok (.aload_n 1, 1) := by decide +kernel
theorem dX9_runOut_115 : decode cX9_runOut 115 = .ok (.getfield 49, 3) := by decide +kernel
theorem dX9_runOut_118 : decode cX9_runOut 118 = .ok (.getfield 161, 3) := by decide +kernel
theorem dX9_runOut_121 : decode cX9_runOut 121 = .ok (.iadd, 1) := by decide +kernel
theorem dX9_runOut_122 : decode cX9_runOut 122 = .ok (.putfield 53, 3) := by decide +kernel
theorem dX9_runOut_125 : decode cX9_runOut 125 = .ok (.iload_n 2, 1) := by decide +kernel
theorem dX9_runOut_126 : decode cX9_runOut 126 = .ok (.ifCond .eq 36, 3) := by decide +kernel
theorem dX9_runOut_129 : decode cX9_runOut 129 = .ok (.aload_n 0, 1) := by decide +kernel
theorem dX9_runOut_130 : decode cX9_runOut 130 = .ok (.getfield 9, 3) := by decide +kernel
theorem dX9_runOut_133 : decode cX9_runOut 133 = .ok (.getfield 140, 3) := by decide +kernel
theorem dX9_runOut_136 : decode cX9_runOut 136 = .ok (.iconst 3, 1) := by decide +kernel
theorem dX9_runOut_137 : decode cX9_runOut 137 = .ok (.dup2, 1) := by decide +kernel
theorem dX9_runOut_138 : decode cX9_runOut 138 = .ok (.iaload, 1) := by decide +kernel
theorem dX9_runOut_139 : decode cX9_runOut 139 = .ok (.iconst 1, 1) := by decide +kernel
theorem dX9_runOut_140 : decode cX9_runOut 140 = .ok (.iadd, 1) := by decide +kernel
theorem dX9_runOut_141 : decode cX9_runOut 141 = .ok (.iastore, 1) := by decide +kernel
theorem dX9_runOut_142 : decode cX9_runOut 142 = .ok (.aload_n 1, 1) := by decide +kernel
theorem dX9_runOut_143 : decode cX9_runOut 143 = .ok (.getfield 49, 3) := by decide +kernel
theorem dX9_runOut_146 : decode cX9_runOut 146 = .ok (.iconst 0, 1) := by decide +kernel
theorem dX9_runOut_147 : decode cX9_runOut 147 = .ok (.putfield 256, 3) := by decide +kernel
theorem dX9_runOut_150 : decode cX9_runOut 150 = .ok (.aload_n 0, 1) := by decide +kernel
theorem dX9_runOut_151 : decode cX9_runOut 151 = .ok (.aload_n 1, 1) := by decide +kernel
theorem dX9_runOut_152 : decode cX9_runOut 152 = .ok (.aload_n 1, 1) := by decide +kernel
theorem dX9_runOut_153 : decode cX9_runOut 153 = .ok (.getfield 154, 3) := by decide +kernel
theorem dX9_runOut_156 : decode cX9_runOut 156 = .ok (.bipush 18, 2) := by decide +kernel
theorem dX9_runOut_158 : decode cX9_runOut 158 = .ok (.invokevirtual 118, 3) := by decide +kernel
theorem dX9_runOut_161 : decode cX9_runOut 161 = .ok (.return_, 1) := by decide +kernel
theorem dX9_runOut_162 : decode cX9_runOut 162 = .ok (.aload_n 1, 1) := by decide +kernel
theorem dX9_runOut_163 : decode cX9_runOut 163 = .ok (.aload_n 1, 1) := by decide +kernel
theorem dX9_runOut_164 : decode cX9_runOut 164 = .ok (.getfield 194, 3) := by decide +kernel
theorem dX9_runOut_167 : decode cX9_runOut 167 = .ok (.putfield 115, 3) := by decide +kernel
theorem dX9_runOut_170 : decode cX9_runOut 170 = .ok (.aload_n 1, 1) := by decide +kernel
theorem dX9_runOut_171 : decode cX9_runOut 171 = .ok (.getfield 212, 3) := by decide +kernel
theorem dX9_runOut_174 : decode cX9_runOut 174 = .ok (.ifCond .ne 7, 3) := by decide +kernel
theorem dX9_runOut_177 : decode cX9_runOut 177 = .ok (.iconst 1, 1) := by decide +kernel
theorem dX9_runOut_178 : decode cX9_runOut 178 = .ok (.goto 7, 3) := by decide +kernel
theorem dX9_runOut_181 : decode cX9_runOut 181 = .ok (.aload_n 1, 1) := by decide +kernel
theorem dX9_runOut_182 : decode cX9_runOut 182 = .ok (.invokevirtual 241, 3) := by decide +kernel
theorem dX9_runOut_185 : decode cX9_runOut 185 = .ok (.istore_n 3, 1) := by decide +kernel
theorem dX9_runOut_186 : decode cX9_runOut 186 = .ok (.aload_n 0, 1) := by decide +kernel
theorem dX9_runOut_187 : decode cX9_runOut 187 = .ok (.aload_n 1, 1) := by decide +kernel
theorem dX9_runOut_188 : decode cX9_runOut 188 = .ok (.aload_n 1, 1) := by decide +kernel
theorem dX9_runOut_189 : decode cX9_runOut 189 = .ok (.getfield 115, 3) := by decide +kernel
theorem dX9_runOut_192 : decode cX9_runOut 192 = .ok (.iload_n 3, 1) := by decide +kernel
theorem dX9_runOut_193 : decode cX9_runOut 193 = .ok (.invokevirtual 206, 3) := by decide +kernel
theorem dX9_runOut_196 : decode cX9_runOut 196 = .ok (.aload_n 1, 1) := by decide +kernel
theorem dX9_runOut_197 : decode cX9_runOut 197 = .ok (.iload_n 3, 1) := by decide +kernel
theorem dX9_runOut_198 : decode cX9_runOut 198 = .ok (.invokevirtual 244, 3) := by decide +kernel
theorem dX9_runOut_201 : decode cX9_runOut 201 = .ok (.return_, 1) := by decide +kernel
theorem wX9_runOut_L185 {x : GX} {n0 sl0 : Nat} (X : Cx x cX9_runOut RX9 none n0 sl0 5 117) {out : Mm} (hE : Ends x n0 sl0 none out) (hn : xn x = 4) (fu : Nat)   (a0 : Nat) (a1 : Option Nat) (s0 : Int32) (M : Mm) (h : fX9_runOut_L185 fu  a0 a1 s0 M = some out) : Gw x M 185 [(0, pR (some a0)), (1, pR a1)] [pI s0] := by
  unfold fX9_runOut_L185 at h
  refine g_istore_n X (pc := 185) [(3, pI s0), (0, pR (some a0)), (1, pR a1)] rfl (lt_n hn (by decide)) rfl dX9_runOut_185 ?_
  refine g_aload_n X (pc := 186) 1 rfl rfl dX9_runOut_186 ?_
  refine g_aload_n X (pc := 187) 2 rfl rfl dX9_runOut_187 ?_
  refine g_aload_n X (pc := 188) 2 rfl rfl dX9_runOut_188 ?_
  obtain ⟨v1, ev1, h⟩ := bd h
  refine g_getI X (pc := 189) fk_1_5 rfl rfl ev1 tb_970 dX9_runOut_189 ?_
  refine g_iload_n X (pc := 192) 0 rfl rfl dX9_runOut_192 ?_
  obtain ⟨q2, eq2, h⟩ := bd h
  obtain ⟨M3, eM3, h⟩ := bd h
  refine g_callV X (pc := 193) (M' := M3) (ro := none) (c := 9) rfl (by decide) (as := [pR a1, pI v1, pI s0]) (as' := [pI s0, pI v1, pR a1]) (st := []) eq2 (ctX9_sendPart _ _ _ _ _ _ fu q2 a1 v1 s0 M _ eM3) tb_676 tb_673 tb_675 ts_20 tb_6 ⟨rfl, hyX9_sendPart⟩ rfl rfl ⟨by decide, by decide⟩ (Nat.le_of_ble_eq_true rfl) dX9_runOut_193 ?_
  refine g_aload_n X (pc := 196) 2 rfl rfl dX9_runOut_196 ?_
  refine g_iload_n X (pc := 197) 0 rfl rfl dX9_runOut_197 ?_
  obtain ⟨q4, eq4, h⟩ := bd h
  obtain ⟨M5, eM5, h⟩ := bd h
  refine g_callV X (pc := 198) (M' := M5) (ro := none) (c := 1) rfl (by decide) (as := [pI s0]) (as' := [pI s0]) (st := []) eq4 (ctX1_advance _ _ _ _ _ _ fu q4 s0 M3 _ eM5) tb_696 tb_693 tb_694 tb_695 tb_18 ⟨rfl, hyX1_advance⟩ rfl rfl ⟨by decide, by decide⟩ (Nat.le_of_ble_eq_true rfl) dX9_runOut_198 ?_
  obtain rfl := Option.some.inj h
  exact g_return X hE dX9_runOut_201
theorem wX9_runOut_L96 {x : GX} {n0 sl0 : Nat} (X : Cx x cX9_runOut RX9 none n0 sl0 5 117) {out : Mm} (hE : Ends x n0 sl0 none out) (hn : xn x = 4) (fu : Nat)   (a0 : Nat) (a1 : Option Nat) (a2 : Int32)  (M : Mm) (h : fX9_runOut_L96 fu  a0 a1 a2 M = some out) : Gw x M 96 [(0, pR (some a0)), (1, pR a1), (2, pI a2)] [] := by
  unfold fX9_runOut_L96 at h
  refine g_aload_n X (pc := 96) 1 rfl rfl dX9_runOut_96 ?_
  obtain ⟨v1, ev1, h⟩ := bd h
  refine g_getR X (pc := 97) fk_1_17 rfl rfl ev1 tb_997 dX9_runOut_97 ?_
  obtain ⟨q2, eq2, h⟩ := bd h
  obtain ⟨M3, eM3, h⟩ := bd h
  refine g_callV X (pc := 100) (M' := M3) (ro := none) (c := 5) rfl (by decide) (as := []) (as' := []) (st := []) eq2 (ctX5_backOff _ _ _ _ _ _ fu q2  M _ eM3) tb_660 tb_657 tb_658 tb_659 tb_20 ⟨rfl, hyX5_backOff⟩ rfl rfl ⟨by decide, by decide⟩ (Nat.le_of_ble_eq_true rfl) dX9_runOut_100 ?_
  refine g_aload_n X (pc := 103) 1 rfl rfl dX9_runOut_103 ?_
  obtain ⟨v4, ev4, h⟩ := bd h
  refine g_getR X (pc := 104) fk_1_17 rfl rfl ev4 tb_997 dX9_runOut_104 ?_
  refine g_aload_n X (pc := 107) 0 rfl rfl dX9_runOut_107 ?_
  obtain ⟨v5, ev5, h⟩ := bd h
  refine g_getR X (pc := 108) fk_9_0 rfl rfl ev5 tb_234 dX9_runOut_108 ?_
  obtain ⟨v6, ev6, h⟩ := bd h
  refine g_getI X (pc := 111) fk_10_1 rfl rfl ev6 tb_71 dX9_runOut_111 ?_
  refine g_aload_n X (pc := 114) 1 rfl rfl dX9_runOut_114 ?_
  obtain ⟨v7, ev7, h⟩ := bd h
  refine g_getR X (pc := 115) fk_1_17 rfl rfl ev7 tb_997 dX9_runOut_115 ?_
  obtain ⟨v8, ev8, h⟩ := bd h
  refine g_getI X (pc := 118) fk_5_3 rfl rfl ev8 tb_908 dX9_runOut_118 ?_
  refine g_iadd X (pc := 121) dX9_runOut_121 ?_
  obtain ⟨M9, eM9, h⟩ := bd h
  refine g_putI X (pc := 122) fk_5_4 rfl rfl rfl eM9 tb_912 (Or.inl rfl) dX9_runOut_122 ?_
  refine g_iload_n X (pc := 125) 2 rfl rfl dX9_runOut_125 ?_
  refine g_if_eq X (pc := 126) (tgt := 162) dX9_runOut_126 (by decide) (fun hc => ?_) (fun hc => ?_)
  · have h := (if_pos hc).symm.trans h
    refine g_aload_n X (pc := 162) 1 rfl rfl dX9_runOut_162 ?_
    refine g_aload_n X (pc := 163) 1 rfl rfl dX9_runOut_163 ?_
    obtain ⟨v10, ev10, h⟩ := bd h
    refine g_getI X (pc := 164) fk_1_4 rfl rfl ev10 tb_968 dX9_runOut_164 ?_
    obtain ⟨M11, eM11, h⟩ := bd h
    refine g_putI X (pc := 167) fk_1_5 rfl rfl rfl eM11 tb_970 (Or.inl rfl) dX9_runOut_167 ?_
    refine g_aload_n X (pc := 170) 1 rfl rfl dX9_runOut_170 ?_
    obtain ⟨v12, ev12, h⟩ := bd h
    refine g_getI X (pc := 171) fk_1_7 rfl rfl ev12 tb_975 dX9_runOut_171 ?_
    refine g_if_ne X (pc := 174) (tgt := 181) dX9_runOut_174 (by decide) (fun hc => ?_) (fun hc => ?_)
    · have h := (if_neg hc).symm.trans h
      refine g_aload_n X (pc := 181) 1 rfl rfl dX9_runOut_181 ?_
      obtain ⟨q13, eq13, h⟩ := bd h
      obtain ⟨v15, M14, eM14, h⟩ := b2d h
      refine g_callV X (pc := 182) (M' := M14) (ro := some (pI v15)) (c := 1) rfl (by decide) (as := []) (as' := []) (st := []) eq13 (ctX1_mayGo _ _ _ _ _ _ fu q13  M11 _ eM14) tb_666 tb_663 tb_664 tb_665 tb_18 ⟨rfl, hyX1_mayGo⟩ rfl rfl ⟨by decide, by decide⟩ (Nat.le_of_ble_eq_true rfl) dX9_runOut_182 ?_
      refine g_sub [0, 1] [(0, pR (some a0)), (1, pR a1)] rfl ?_
      exact wX9_runOut_L185 X hE hn fu   a0 a1 v15 M14 h
    · have h := (if_pos hc).symm.trans h
      refine g_iconst X (pc := 177) (v := 1) dX9_runOut_177 (by decide) ?_
      refine g_goto X (pc := 178) (tgt := 185) dX9_runOut_178 (by decide) ?_
      refine g_sub [0, 1] [(0, pR (some a0)), (1, pR a1)] rfl ?_
      exact wX9_runOut_L185 X hE hn fu   a0 a1 (1 : Int32) M11 h
  · have h := (if_neg hc).symm.trans h
    refine g_aload_n X (pc := 129) 0 rfl rfl dX9_runOut_129 ?_
    obtain ⟨v16, ev16, h⟩ := bd h
    refine g_getR X (pc := 130) fk_9_0 rfl rfl ev16 tb_234 dX9_runOut_130 ?_
    obtain ⟨v17, ev17, h⟩ := bd h
    refine g_getR X (pc := 133) fk_10_0 rfl rfl ev17 tb_65 dX9_runOut_133 ?_
    refine g_iconst X (pc := 136) (v := 3) dX9_runOut_136 (by decide) ?_
    refine g_dup2 X (pc := 137) rfl rfl dX9_runOut_137 ?_
    obtain ⟨v18, ev18, h⟩ := bd h
    refine g_iaload X (pc := 138) ev18 dX9_runOut_138 ?_
    refine g_iconst X (pc := 139) (v := 1) dX9_runOut_139 (by decide) ?_
    refine g_iadd X (pc := 140) dX9_runOut_140 ?_
    obtain ⟨M19, eM19, h⟩ := bd h
    refine g_iastore X (pc := 141) eM19 dX9_runOut_141 ?_
    refine g_aload_n X (pc := 142) 1 rfl rfl dX9_runOut_142 ?_
    obtain ⟨v20, ev20, h⟩ := bd h
    refine g_getR X (pc := 143) fk_1_17 rfl rfl ev20 tb_997 dX9_runOut_143 ?_
    refine g_iconst X (pc := 146) (v := 0) dX9_runOut_146 (by decide) ?_
    obtain ⟨M21, eM21, h⟩ := bd h
    refine g_putZ X (pc := 147) fk_5_8 rfl rfl rfl eM21 tb_922 (Or.inl rfl) dX9_runOut_147 ?_
    refine g_aload_n X (pc := 150) 0 rfl rfl dX9_runOut_150 ?_
    refine g_aload_n X (pc := 151) 1 rfl rfl dX9_runOut_151 ?_
    refine g_aload_n X (pc := 152) 1 rfl rfl dX9_runOut_152 ?_
    obtain ⟨v22, ev22, h⟩ := bd h
    refine g_getI X (pc := 153) fk_1_3 rfl rfl ev22 tb_966 dX9_runOut_153 ?_
    refine g_bipush X (pc := 156) (v := 18) dX9_runOut_156 (by decide) ?_
    obtain ⟨q23, eq23, h⟩ := bd h
    obtain ⟨M24, eM24, h⟩ := bd h
    refine g_callV X (pc := 158) (M' := M24) (ro := none) (c := 9) rfl (by decide) (as := [pR a1, pI v22, pI (18 : Int32)]) (as' := [pI (18 : Int32), pI v22, pR a1]) (st := []) eq23 (ctX9_sendPlain _ _ _ _ _ _ fu q23 a1 v22 (18 : Int32) M21 _ eM24) tb_589 tb_586 tb_588 ts_11 tb_6 ⟨rfl, hyX9_sendPlain⟩ rfl rfl ⟨by decide, by decide⟩ (Nat.le_of_ble_eq_true rfl) dX9_runOut_158 ?_
    obtain rfl := Option.some.inj h
    exact g_return X hE dX9_runOut_161
theorem wX9_runOut_L44 {x : GX} {n0 sl0 : Nat} (X : Cx x cX9_runOut RX9 none n0 sl0 5 117) {out : Mm} (hE : Ends x n0 sl0 none out) (hn : xn x = 4) (fu : Nat)   (a0 : Nat) (a1 : Option Nat) (a2 : Int32) (s0 : Int32) (s1 : Int32) (M : Mm) (h : fX9_runOut_L44 fu  a0 a1 a2 s0 s1 M = some out) : Gw x M 44 [(0, pR (some a0)), (1, pR a1), (2, pI a2)] [pI s1, pI s0] := by
  unfold fX9_runOut_L44 at h
  refine g_icmp_le X (pc := 44) (tgt := 76) dX9_runOut_44 (by decide) (fun hc => ?_) (fun hc => ?_)
  · have h := (if_pos hc).symm.trans h
    refine g_iload_n X (pc := 76) 2 rfl rfl dX9_runOut_76 ?_
    refine g_if_ne X (pc := 77) (tgt := 96) dX9_runOut_77 (by decide) (fun hc => ?_) (fun hc => ?_)
    · have h := (if_neg hc).symm.trans h
      exact wX9_runOut_L96 X hE hn fu   a0 a1 a2 M h
    · have h := (if_pos hc).symm.trans h
      refine g_aload_n X (pc := 80) 1 rfl rfl dX9_runOut_80 ?_
      obtain ⟨v1, ev1, h⟩ := bd h
      refine g_getR X (pc := 81) fk_1_17 rfl rfl ev1 tb_997 dX9_runOut_81 ?_
      refine g_aload_n X (pc := 84) 1 rfl rfl dX9_runOut_84 ?_
      obtain ⟨v2, ev2, h⟩ := bd h
      refine g_getI X (pc := 85) fk_1_6 rfl rfl ev2 tb_973 dX9_runOut_85 ?_
      refine g_aload_n X (pc := 88) 1 rfl rfl dX9_runOut_88 ?_
      obtain ⟨v3, ev3, h⟩ := bd h
      refine g_getI X (pc := 89) fk_1_4 rfl rfl ev3 tb_968 dX9_runOut_89 ?_
      refine g_isub X (pc := 92) dX9_runOut_92 ?_
      obtain ⟨q4, eq4, h⟩ := bd h
      obtain ⟨M5, eM5, h⟩ := bd h
      refine g_callV X (pc := 93) (M' := M5) (ro := none) (c := 5) rfl (by decide) (as := [pI (v2 - v3)]) (as' := [pI (v2 - v3)]) (st := []) eq4 (ctX5_lowerThreshold _ _ _ _ _ _ fu q4 (v2 - v3) M _ eM5) tb_655 tb_652 tb_653 tb_654 tb_20 ⟨rfl, hyX5_lowerThreshold⟩ rfl rfl ⟨by decide, by decide⟩ (Nat.le_of_ble_eq_true rfl) dX9_runOut_93 ?_
      exact wX9_runOut_L96 X hE hn fu   a0 a1 a2 M5 h
  · have h := (if_neg hc).symm.trans h
    refine g_aload_n X (pc := 47) 0 rfl rfl dX9_runOut_47 ?_
    obtain ⟨v6, ev6, h⟩ := bd h
    refine g_getR X (pc := 48) fk_9_0 rfl rfl ev6 tb_234 dX9_runOut_48 ?_
    obtain ⟨v7, ev7, h⟩ := bd h
    refine g_getR X (pc := 51) fk_10_0 rfl rfl ev7 tb_65 dX9_runOut_51 ?_
    refine g_iconst X (pc := 54) (v := 2) dX9_runOut_54 (by decide) ?_
    refine g_dup2 X (pc := 55) rfl rfl dX9_runOut_55 ?_
    obtain ⟨v8, ev8, h⟩ := bd h
    refine g_iaload X (pc := 56) ev8 dX9_runOut_56 ?_
    refine g_iconst X (pc := 57) (v := 1) dX9_runOut_57 (by decide) ?_
    refine g_iadd X (pc := 58) dX9_runOut_58 ?_
    obtain ⟨M9, eM9, h⟩ := bd h
    refine g_iastore X (pc := 59) eM9 dX9_runOut_59 ?_
    refine g_aload_n X (pc := 60) 0 rfl rfl dX9_runOut_60 ?_
    refine g_aload_n X (pc := 61) 1 rfl rfl dX9_runOut_61 ?_
    refine g_aload_n X (pc := 62) 1 rfl rfl dX9_runOut_62 ?_
    obtain ⟨v10, ev10, h⟩ := bd h
    refine g_getI X (pc := 63) fk_1_5 rfl rfl ev10 tb_970 dX9_runOut_63 ?_
    refine g_bipush X (pc := 66) (v := 20) dX9_runOut_66 (by decide) ?_
    obtain ⟨q11, eq11, h⟩ := bd h
    obtain ⟨M12, eM12, h⟩ := bd h
    refine g_callV X (pc := 68) (M' := M12) (ro := none) (c := 9) rfl (by decide) (as := [pR a1, pI v10, pI (20 : Int32)]) (as' := [pI (20 : Int32), pI v10, pR a1]) (st := []) eq11 (ctX9_sendPlain _ _ _ _ _ _ fu q11 a1 v10 (20 : Int32) M9 _ eM12) tb_589 tb_586 tb_588 ts_11 tb_6 ⟨rfl, hyX9_sendPlain⟩ rfl rfl ⟨by decide, by decide⟩ (Nat.le_of_ble_eq_true rfl) dX9_runOut_68 ?_
    refine g_aload_n X (pc := 71) 1 rfl rfl dX9_runOut_71 ?_
    obtain ⟨q13, eq13, h⟩ := bd h
    obtain ⟨M14, eM14, h⟩ := bd h
    refine g_callV X (pc := 72) (M' := M14) (ro := none) (c := 1) rfl (by decide) (as := []) (as' := []) (st := []) eq13 (ctX1_leave _ _ _ _ _ _ fu q13  M12 _ eM14) tb_452 tb_449 tb_450 tb_451 tb_18 ⟨rfl, hyX1_leave⟩ rfl rfl ⟨by decide, by decide⟩ (Nat.le_of_ble_eq_true rfl) dX9_runOut_72 ?_
    obtain rfl := Option.some.inj h
    exact g_return X hE dX9_runOut_75
theorem wX9_runOut_L13 {x : GX} {n0 sl0 : Nat} (X : Cx x cX9_runOut RX9 none n0 sl0 5 117) {out : Mm} (hE : Ends x n0 sl0 none out) (hn : xn x = 4) (fu : Nat)   (a0 : Nat) (a1 : Option Nat) (s0 : Int32) (M : Mm) (h : fX9_runOut_L13 fu  a0 a1 s0 M = some out) : Gw x M 13 [(0, pR (some a0)), (1, pR a1)] [pI s0] := by
  unfold fX9_runOut_L13 at h
  refine g_istore_n X (pc := 13) [(2, pI s0), (0, pR (some a0)), (1, pR a1)] rfl (lt_n hn (by decide)) rfl dX9_runOut_13 ?_
  refine g_aload_n X (pc := 14) 2 rfl rfl dX9_runOut_14 ?_
  obtain ⟨v1, ev1, h⟩ := bd h
  refine g_getR X (pc := 15) fk_1_17 rfl rfl ev1 tb_997 dX9_runOut_15 ?_
  refine g_dup X (pc := 18) rfl dX9_runOut_18 ?_
  obtain ⟨v2, ev2, h⟩ := bd h
  refine g_getI X (pc := 19) fk_5_5 rfl rfl ev2 tb_915 dX9_runOut_19 ?_
  refine g_iconst X (pc := 22) (v := 1) dX9_runOut_22 (by decide) ?_
  refine g_iadd X (pc := 23) dX9_runOut_23 ?_
  obtain ⟨M3, eM3, h⟩ := bd h
  refine g_putI X (pc := 24) fk_5_5 rfl rfl rfl eM3 tb_915 (Or.inl rfl) dX9_runOut_24 ?_
  refine g_aload_n X (pc := 27) 2 rfl rfl dX9_runOut_27 ?_
  obtain ⟨v4, ev4, h⟩ := bd h
  refine g_getR X (pc := 28) fk_1_17 rfl rfl ev4 tb_997 dX9_runOut_28 ?_
  obtain ⟨v5, ev5, h⟩ := bd h
  refine g_getI X (pc := 31) fk_5_5 rfl rfl ev5 tb_915 dX9_runOut_31 ?_
  refine g_iload_n X (pc := 34) 0 rfl rfl dX9_runOut_34 ?_
  refine g_if_eq X (pc := 35) (tgt := 42) dX9_runOut_35 (by decide) (fun hc => ?_) (fun hc => ?_)
  · have h := (if_pos hc).symm.trans h
    refine g_bipush X (pc := 42) (v := 8) dX9_runOut_42 (by decide) ?_
    refine g_sub [1, 2, 0] [(0, pR (some a0)), (1, pR a1), (2, pI s0)] rfl ?_
    exact wX9_runOut_L44 X hE hn fu   a0 a1 s0 v5 (8 : Int32) M3 h
  · have h := (if_neg hc).symm.trans h
    refine g_iconst X (pc := 38) (v := 5) dX9_runOut_38 (by decide) ?_
    refine g_goto X (pc := 39) (tgt := 44) dX9_runOut_39 (by decide) ?_
    refine g_sub [1, 2, 0] [(0, pR (some a0)), (1, pR a1), (2, pI s0)] rfl ?_
    exact wX9_runOut_L44 X hE hn fu   a0 a1 s0 v5 (5 : Int32) M3 h
theorem wX9_runOut {x : GX} {n0 sl0 : Nat} (X : Cx x cX9_runOut RX9 none n0 sl0 5 117) {out : Mm} (hE : Ends x n0 sl0 none out) (hn : xn x = 4) (fu : Nat)   (a0 : Nat) (a1 : Option Nat)  (M : Mm) (h : fX9_runOut fu  a0 a1 M = some out) : Gw x M 0 [(0, pR (some a0)), (1, pR a1)] [] := by
  unfold fX9_runOut at h
  refine g_aload_n X (pc := 0) 1 rfl rfl dX9_runOut_0 ?_
  obtain ⟨v1, ev1, h⟩ := bd h
  refine g_getI X (pc := 1) fk_1_0 rfl rfl ev1 tb_959 dX9_runOut_1 ?_
  refine g_iconst X (pc := 4) (v := 1) dX9_runOut_4 (by decide) ?_
  refine g_icmp_ne X (pc := 5) (tgt := 12) dX9_runOut_5 (by decide) (fun hc => ?_) (fun hc => ?_)
  · have h := (if_neg hc).symm.trans h
    refine g_iconst X (pc := 12) (v := 0) dX9_runOut_12 (by decide) ?_
    exact wX9_runOut_L13 X hE hn fu   a0 a1 (0 : Int32) M h
  · have h := (if_pos hc).symm.trans h
    refine g_iconst X (pc := 8) (v := 1) dX9_runOut_8 (by decide) ?_
    refine g_goto X (pc := 9) (tgt := 13) dX9_runOut_9 (by decide) ?_
    exact wX9_runOut_L13 X hE hn fu   a0 a1 (1 : Int32) M h
theorem hyX9_runOut : yX9_runOut.cls ≠ "java/lang/invoke/MethodHandle" ∧ yX9_runOut.cls ≠ "java/lang/invoke/VarHandle" ∧ (parseMethodDescriptor yX9_runOut.desc).map (fun d => d.parameters.length) = some 1 := ⟨by decide +kernel, by decide +kernel, by decide +kernel⟩
theorem ctX9_runOut (l : Launch) (E : Nat → Nat) (D : va_G) (dA : Nat → ClassId) (lo : Nat) (H0 : Heap) (fu : Nat) (a0 : Nat) (a1 : Option Nat) (M : Mm) (out : Mm) (h : fX9_runOut fu a0 a1 M = some out) : Ct l E D dA lo H0 yX9_runOut cX9_runOut 4 none 5 117 [pR (some a0), pR a1] M none out := by
  refine ct_of (by decide +kernel) (Nat.le_of_ble_eq_true rfl) ?_
  intro x hl he hd ha ho hh hn hin X hE
  exact wX9_runOut X hE hn fu a0 a1 M h
/-! WebHost$Wire.<init>()V -/
def fX10_init (fu : Nat)  (a0 : Nat)  (M : Mm) : Option (Mm) :=
    b2 (mkA M 101 (8 : Int32)) fun v1 M2 =>
    (pG M2 10 640 (some a0) (some v1)).bind fun M3 =>
    b2 (mkA M3 116 (32 : Int32)) fun v4 M5 =>
    (pG M5 10 644 (some a0) (some v4)).bind fun M6 =>
    some M6
theorem dX10_init_0 : decode cX10_init 0 = .ok (.aload_n 0, 1) := by decide +kernel
theorem dX10_init_1 : decode cX10_init 1 = .ok (.invokespecial 3, 3) := by decide +kernel
theorem dX10_init_4 : decode cX10_init 4 = .ok (.aload_n 0, 1) := by decide +kernel
theorem dX10_init_5 : decode cX10_init 5 = .ok (.bipush 8, 2) := by decide +kernel
theorem dX10_init_7 : decode cX10_init 7 = .ok (.newarray .int, 2) := by decide +kernel
theorem dX10_init_9 : decode cX10_init 9 = .ok (.putfield 9, 3) := by decide +kernel
theorem dX10_init_12 : decode cX10_init 12 = .ok (.aload_n 0, 1) := by decide +kernel
theorem dX10_init_13 : decode cX10_init 13 = .ok (.bipush 32, 2) := by decide +kernel
theorem dX10_init_15 : decode cX10_init 15 = .ok (.anewarray 15, 3) := by decide +kernel
theorem dX10_init_18 : decode cX10_init 18 = .ok (.putfield 17, 3) := by decide +kernel
theorem dX10_init_21 : decode cX10_init 21 = .ok (.return_, 1) := by decide +kernel
theorem wX10_init {x : GX} {n0 sl0 : Nat} (X : Cx x cX10_init RX10 none n0 sl0 1 12) {out : Mm} (hE : Ends x n0 sl0 none out) (hn : xn x = 1) (hin : (xt x).name = "<init>") (fu : Nat)   (a0 : Nat)  (M : Mm) (h : fX10_init fu  a0 M = some out) : Gw x M 0 [(0, pR (some a0))] [] := by
  unfold fX10_init at h
  refine g_aload_n X (pc := 0) 0 rfl rfl dX10_init_0 ?_
  refine g_objInit X (pc := 1) (o := (some a0)) ⟨_, rfl⟩ tb_59 tb_32 tb_33 ⟨by decide, Nat.le_of_ble_eq_true rfl⟩ dX10_init_1 ?_
  refine g_aload_n X (pc := 4) 0 rfl rfl dX10_init_4 ?_
  refine g_bipush X (pc := 5) (v := 8) dX10_init_5 (by decide) ?_
  obtain ⟨v1, M2, eM2, h⟩ := b2d h
  refine g_newarray X (pc := 7) (at9 := .int) (k := 1) rfl (by decide) rfl (by decide) (fun _ _ q => q) tb_89 eM2 dX10_init_7 ?_
  obtain ⟨M3, eM3, h⟩ := bd h
  refine g_putG X (pc := 9) fk_10_0 rfl rfl rfl eM3 tb_62 (Or.inr ⟨rfl, hin, rfl⟩) dX10_init_9 ?_
  refine g_aload_n X (pc := 12) 0 rfl rfl dX10_init_12 ?_
  refine g_bipush X (pc := 13) (v := 32) dX10_init_13 (by decide) ?_
  obtain ⟨v4, M5, eM5, h⟩ := b2d h
  refine g_anewarray X (pc := 15) (k := 3) rfl (by decide) (by decide) tb_60 eM5 dX10_init_15 ?_
  obtain ⟨M6, eM6, h⟩ := bd h
  refine g_putG X (pc := 18) fk_10_4 rfl rfl rfl eM6 tb_77 (Or.inr ⟨rfl, hin, rfl⟩) dX10_init_18 ?_
  obtain rfl := Option.some.inj h
  exact g_return X hE dX10_init_21
theorem hyX10_init : yX10_init.cls ≠ "java/lang/invoke/MethodHandle" ∧ yX10_init.cls ≠ "java/lang/invoke/VarHandle" ∧ (parseMethodDescriptor yX10_init.desc).map (fun d => d.parameters.length) = some 0 := ⟨by decide +kernel, by decide +kernel, by decide +kernel⟩
theorem ctX10_init (l : Launch) (E : Nat → Nat) (D : va_G) (dA : Nat → ClassId) (lo : Nat) (H0 : Heap) (fu : Nat) (a0 : Nat) (M : Mm) (out : Mm) (h : fX10_init fu a0 M = some out) : Ct l E D dA lo H0 yX10_init cX10_init 1 none 1 12 [pR (some a0)] M none out := by
  refine ct_of (by decide +kernel) (Nat.le_of_ble_eq_true rfl) ?_
  intro x hl he hd ha ho hh hn hin X hE
  exact wX10_init X hE hn hin fu a0 M h
/-! WebHost$Wire.restart()V -/
def fX10_restart (fu : Nat)  (a0 : Nat)  (M : Mm) : Option (Mm) :=
    (gR M 10 640 (some a0)).bind fun v1 =>
    (fJ7_fill_53178 fu  v1 (0 : Int32) M).bind fun M2 =>
    (pF M2 10 641 (some a0) (0 : Int32)).bind fun M3 =>
    (pF M3 10 642 (some a0) (0 : Int32)).bind fun M4 =>
    (pF M4 10 643 (some a0) (0 : Int32)).bind fun M5 =>
    some M5
theorem dX10_restart_0 : decode cX10_restart 0 = .ok (.aload_n 0, 1) := by decide +kernel
theorem dX10_restart_1 : decode cX10_restart 1 = .ok (.getfield 9, 3) := by decide +kernel
theorem dX10_restart_4 : decode cX10_restart 4 = .ok (.iconst 0, 1) := by decide +kernel
theorem dX10_restart_5 : decode cX10_restart 5 = .ok (.invokestatic 21, 3) := by decide +kernel
theorem dX10_restart_8 : decode cX10_restart 8 = .ok (.aload_n 0, 1) := by decide +kernel
theorem dX10_restart_9 : decode cX10_restart 9 = .ok (.iconst 0, 1) := by decide +kernel
theorem dX10_restart_10 : decode cX10_restart 10 = .ok (.putfield 27, 3) := by decide +kernel
theorem dX10_restart_13 : decode cX10_restart 13 = .ok (.aload_n 0, 1) := by decide +kernel
theorem dX10_restart_14 : decode cX10_restart 14 = .ok (.iconst 0, 1) := by decide +kernel
theorem dX10_restart_15 : decode cX10_restart 15 = .ok (.putfield 31, 3) := by decide +kernel
theorem dX10_restart_18 : decode cX10_restart 18 = .ok (.aload_n 0, 1) := by decide +kernel
theorem dX10_restart_19 : decode cX10_restart 19 = .ok (.iconst 0, 1) := by decide +kernel
theorem dX10_restart_20 : decode cX10_restart 20 = .ok (.putfield 34, 3) := by decide +kernel
theorem dX10_restart_23 : decode cX10_restart 23 = .ok (.return_, 1) := by decide +kernel
theorem wX10_restart {x : GX} {n0 sl0 : Nat} (X : Cx x cX10_restart RX10 none n0 sl0 1 23) {out : Mm} (hE : Ends x n0 sl0 none out) (hn : xn x = 1) (fu : Nat)   (a0 : Nat)  (M : Mm) (h : fX10_restart fu  a0 M = some out) : Gw x M 0 [(0, pR (some a0))] [] := by
  unfold fX10_restart at h
  refine g_aload_n X (pc := 0) 0 rfl rfl dX10_restart_0 ?_
  obtain ⟨v1, ev1, h⟩ := bd h
  refine g_getR X (pc := 1) fk_10_0 rfl rfl ev1 tb_62 dX10_restart_1 ?_
  refine g_iconst X (pc := 4) (v := 0) dX10_restart_4 (by decide) ?_
  obtain ⟨M2, eM2, h⟩ := bd h
  refine g_callS X (pc := 5) (M' := M2) (ro := none) (as := [pR v1, pI (0 : Int32)]) (as' := [pI (0 : Int32), pR v1]) (st := []) (ctJ7_fill_53178 _ _ _ _ _ _ fu  v1 (0 : Int32) M _ eM2) tb_436 tb_434 tb_435 tb_14 hyJ7_fill_53178 rfl rfl ⟨by decide, by decide⟩ (Nat.le_of_ble_eq_true rfl) dX10_restart_5 ?_
  refine g_aload_n X (pc := 8) 0 rfl rfl dX10_restart_8 ?_
  refine g_iconst X (pc := 9) (v := 0) dX10_restart_9 (by decide) ?_
  obtain ⟨M3, eM3, h⟩ := bd h
  refine g_putI X (pc := 10) fk_10_1 rfl rfl rfl eM3 tb_67 (Or.inl rfl) dX10_restart_10 ?_
  refine g_aload_n X (pc := 13) 0 rfl rfl dX10_restart_13 ?_
  refine g_iconst X (pc := 14) (v := 0) dX10_restart_14 (by decide) ?_
  obtain ⟨M4, eM4, h⟩ := bd h
  refine g_putI X (pc := 15) fk_10_2 rfl rfl rfl eM4 tb_72 (Or.inl rfl) dX10_restart_15 ?_
  refine g_aload_n X (pc := 18) 0 rfl rfl dX10_restart_18 ?_
  refine g_iconst X (pc := 19) (v := 0) dX10_restart_19 (by decide) ?_
  obtain ⟨M5, eM5, h⟩ := bd h
  refine g_putI X (pc := 20) fk_10_3 rfl rfl rfl eM5 tb_74 (Or.inl rfl) dX10_restart_20 ?_
  obtain rfl := Option.some.inj h
  exact g_return X hE dX10_restart_23
theorem hyX10_restart : yX10_restart.cls ≠ "java/lang/invoke/MethodHandle" ∧ yX10_restart.cls ≠ "java/lang/invoke/VarHandle" ∧ (parseMethodDescriptor yX10_restart.desc).map (fun d => d.parameters.length) = some 0 := ⟨by decide +kernel, by decide +kernel, by decide +kernel⟩
theorem ctX10_restart (l : Launch) (E : Nat → Nat) (D : va_G) (dA : Nat → ClassId) (lo : Nat) (H0 : Heap) (fu : Nat) (a0 : Nat) (M : Mm) (out : Mm) (h : fX10_restart fu a0 M = some out) : Ct l E D dA lo H0 yX10_restart cX10_restart 1 none 1 23 [pR (some a0)] M none out := by
  refine ct_of (by decide +kernel) (Nat.le_of_ble_eq_true rfl) ?_
  intro x hl he hd ha ho hh hn hin X hE
  exact wX10_restart X hE hn fu a0 M h
/-! WebHost$Wire.back(I)LWebHost$Packet; -/
def fX10_back (fu : Nat)  (a0 : Nat) (a1 : Int32)  (M : Mm) : Option (Option Nat × Mm) :=
    if a1 < 0 then (
    some (none, M))
    else (
    if (32 : Int32) ≤ a1 then (
    some (none, M))
    else (
    (gI M 10 642 (some a0)).bind fun v1 =>
    if a1 < v1 then (
    (gR M 10 644 (some a0)).bind fun v2 =>
    (gI M 10 642 (some a0)).bind fun v3 =>
    (gB M 116 v2 (irm ((v3 - (1 : Int32)) - a1) (32 : Int32))).bind fun v4 =>
    some (v4, M))
    else (
    some (none, M))))
theorem dX10_back_0 : decode cX10_back 0 = .ok (.iload_n 1, 1) := by decide +kernel
theorem dX10_back_1 : decode cX10_back 1 = .ok (.ifCond .lt 17, 3) := by decide +kernel
theorem dX10_back_4 : decode cX10_back 4 = .ok (.iload_n 1, 1) := by decide +kernel
theorem dX10_back_5 : decode cX10_back 5 = .ok (.bipush 32, 2) := by decide +kernel
theorem dX10_back_7 : decode cX10_back 7 = .ok (.if_icmp .ge 11, 3) := by decide +kernel
theorem dX10_back_10 : decode cX10_back 10 = .ok (.iload_n 1, 1) := by decide +kernel
theorem dX10_back_11 : decode cX10_back 11 = .ok (.aload_n 0, 1) := by decide +kernel
theorem dX10_back_12 : decode cX10_back 12 = .ok (.getfield 31, 3) := by decide +kernel
theorem dX10_back_15 : decode cX10_back 15 = .ok (.if_icmp .lt 5, 3) := by decide +kernel
theorem dX10_back_18 : decode cX10_back 18 = .ok (.aconst_null, 1) := by decide +kernel
theorem dX10_back_19 : decode cX10_back 19 = .ok (.areturn, 1) := by decide +kernel
theorem dX10_back_20 : decode cX10_back 20 = .ok (.aload_n 0, 1) := by decide +kernel
theorem dX10_back_21 : decode cX10_back 21 = .ok (.getfield 17, 3) := by decide +kernel
theorem dX10_back_24 : decode cX10_back 24 = .ok (.aload_n 0, 1) := by decide +kernel
theorem dX10_back_25 : decode cX10_back 25 = .ok (.getfield 31, 3) := by decide +kernel
theorem dX10_back_28 : decode cX10_back 28 = .ok (.iconst 1, 1) := by decide +kernel
theorem dX10_back_29 : decode cX10_back 29 = .ok (.isub, 1) := by decide +kernel
theorem dX10_back_30 : decode cX10_back 30 = .ok (.iload_n 1, 1) := by decide +kernel
theorem dX10_back_31 : decode cX10_back 31 = .ok (.isub, 1) := by decide +kernel
theorem dX10_back_32 : decode cX10_back 32 = .ok (.bipush 32, 2) := by decide +kernel
theorem dX10_back_34 : decode cX10_back 34 = .ok (.irem, 1) := by decide +kernel
theorem dX10_back_35 : decode cX10_back 35 = .ok (.aaload, 1) := by decide +kernel
theorem dX10_back_36 : decode cX10_back 36 = .ok (.areturn, 1) := by decide +kernel
theorem wX10_back {x : GX} {n0 sl0 : Nat} (X : Cx x cX10_back RX10 (some (.object "WebHost$Packet")) n0 sl0 0 0) {out : Option Nat × Mm} (hE : Ends x n0 sl0 (some (pR out.1)) out.2) (hn : xn x = 2) (fu : Nat)   (a0 : Nat) (a1 : Int32)  (M : Mm) (h : fX10_back fu  a0 a1 M = some out) : Gw x M 0 [(0, pR (some a0)), (1, pI a1)] [] := by
  unfold fX10_back at h
  refine g_iload_n X (pc := 0) 1 rfl rfl dX10_back_0 ?_
  refine g_if_lt X (pc := 1) (tgt := 18) dX10_back_1 (by decide) (fun hc => ?_) (fun hc => ?_)
  · have h := (if_pos hc).symm.trans h
    refine g_null X (pc := 18) dX10_back_18 ?_
    obtain rfl := Option.some.inj h
    exact g_areturn X rfl (Or.inl ⟨_, rfl⟩) hE dX10_back_19
  · have h := (if_neg hc).symm.trans h
    refine g_iload_n X (pc := 4) 1 rfl rfl dX10_back_4 ?_
    refine g_bipush X (pc := 5) (v := 32) dX10_back_5 (by decide) ?_
    refine g_icmp_ge X (pc := 7) (tgt := 18) dX10_back_7 (by decide) (fun hc => ?_) (fun hc => ?_)
    · have h := (if_pos hc).symm.trans h
      refine g_null X (pc := 18) dX10_back_18 ?_
      obtain rfl := Option.some.inj h
      exact g_areturn X rfl (Or.inl ⟨_, rfl⟩) hE dX10_back_19
    · have h := (if_neg hc).symm.trans h
      refine g_iload_n X (pc := 10) 1 rfl rfl dX10_back_10 ?_
      refine g_aload_n X (pc := 11) 0 rfl rfl dX10_back_11 ?_
      obtain ⟨v1, ev1, h⟩ := bd h
      refine g_getI X (pc := 12) fk_10_2 rfl rfl ev1 tb_72 dX10_back_12 ?_
      refine g_icmp_lt X (pc := 15) (tgt := 20) dX10_back_15 (by decide) (fun hc => ?_) (fun hc => ?_)
      · have h := (if_pos hc).symm.trans h
        refine g_aload_n X (pc := 20) 0 rfl rfl dX10_back_20 ?_
        obtain ⟨v2, ev2, h⟩ := bd h
        refine g_getR X (pc := 21) fk_10_4 rfl rfl ev2 tb_77 dX10_back_21 ?_
        refine g_aload_n X (pc := 24) 0 rfl rfl dX10_back_24 ?_
        obtain ⟨v3, ev3, h⟩ := bd h
        refine g_getI X (pc := 25) fk_10_2 rfl rfl ev3 tb_72 dX10_back_25 ?_
        refine g_iconst X (pc := 28) (v := 1) dX10_back_28 (by decide) ?_
        refine g_isub X (pc := 29) dX10_back_29 ?_
        refine g_iload_n X (pc := 30) 1 rfl rfl dX10_back_30 ?_
        refine g_isub X (pc := 31) dX10_back_31 ?_
        refine g_bipush X (pc := 32) (v := 32) dX10_back_32 (by decide) ?_
        refine g_irem X (pc := 34) (by decide) dX10_back_34 ?_
        obtain ⟨v4, ev4, h⟩ := bd h
        refine g_aaload X (pc := 35) (k := 3) rfl rfl (by decide) ev4 dX10_back_35 ?_
        obtain rfl := Option.some.inj h
        exact g_areturn X rfl (Or.inl ⟨_, rfl⟩) hE dX10_back_36
      · have h := (if_neg hc).symm.trans h
        refine g_null X (pc := 18) dX10_back_18 ?_
        obtain rfl := Option.some.inj h
        exact g_areturn X rfl (Or.inl ⟨_, rfl⟩) hE dX10_back_19
theorem hyX10_back : yX10_back.cls ≠ "java/lang/invoke/MethodHandle" ∧ yX10_back.cls ≠ "java/lang/invoke/VarHandle" ∧ (parseMethodDescriptor yX10_back.desc).map (fun d => d.parameters.length) = some 1 := ⟨by decide +kernel, by decide +kernel, by decide +kernel⟩
theorem ctX10_back (l : Launch) (E : Nat → Nat) (D : va_G) (dA : Nat → ClassId) (lo : Nat) (H0 : Heap) (fu : Nat) (a0 : Nat) (a1 : Int32) (M : Mm) (out : Option Nat × Mm) (h : fX10_back fu a0 a1 M = some out) : Ct l E D dA lo H0 yX10_back cX10_back 2 (some (.object "WebHost$Packet")) 0 0 [pR (some a0), pI a1] M (some (pR out.1)) out.2 := by
  refine ct_of (by decide +kernel) (Nat.le_of_ble_eq_true rfl) ?_
  intro x hl he hd ha ho hh hn hin X hE
  exact wX10_back X hE hn fu a0 a1 M h
/-! WebHost.<init>()V -/
def fX11_init (fu : Nat)  (a0 : Nat)  (M : Mm) : Option (Mm) :=
    b2 (mkO M 8) fun v1 M2 =>
    (fX8_init fu v1  M2).bind fun M3 =>
    (pG M3 11 704 (some a0) (some v1)).bind fun M4 =>
    b2 (mkO M4 10) fun v5 M6 =>
    (fX10_init fu v5  M6).bind fun M7 =>
    (pG M7 11 705 (some a0) (some v5)).bind fun M8 =>
    b2 (mkO M8 4) fun v9 M10 =>
    (gR M10 11 705 (some a0)).bind fun v11 =>
    (fX4_init fu v9 v11 M10).bind fun M12 =>
    (pG M12 11 706 (some a0) (some v9)).bind fun M13 =>
    b2 (mkO M13 3) fun v14 M15 =>
    (gR M15 11 705 (some a0)).bind fun v16 =>
    (gR M15 11 706 (some a0)).bind fun v17 =>
    (fX3_init fu v14 v16 v17 M15).bind fun M18 =>
    (pG M18 11 707 (some a0) (some v14)).bind fun M19 =>
    b2 (mkO M19 9) fun v20 M21 =>
    (gR M21 11 705 (some a0)).bind fun v22 =>
    (gR M21 11 706 (some a0)).bind fun v23 =>
    (gR M21 11 704 (some a0)).bind fun v24 =>
    (gR M21 11 707 (some a0)).bind fun v25 =>
    (fX9_init fu v20 v22 v23 v24 v25 M21).bind fun M26 =>
    (pG M26 11 708 (some a0) (some v20)).bind fun M27 =>
    b2 (mkO M27 7) fun v28 M29 =>
    (gR M29 11 704 (some a0)).bind fun v30 =>
    (gR M29 11 705 (some a0)).bind fun v31 =>
    (fX7_init fu v28 v30 v31 M29).bind fun M32 =>
    (pG M32 11 709 (some a0) (some v28)).bind fun M33 =>
    b2 (mkA M33 100 (80 : Int32)) fun v34 M35 =>
    (pG M35 11 710 (some a0) (some v34)).bind fun M36 =>
    some M36
theorem dX11_init_0 : decode cX11_init 0 = .ok (.aload_n 0, 1) := by decide +kernel
theorem dX11_init_1 : decode cX11_init 1 = .ok (.invokespecial 1, 3) := by decide +kernel
theorem dX11_init_4 : decode cX11_init 4 = .ok (.aload_n 0, 1) := by decide +kernel
theorem dX11_init_5 : decode cX11_init 5 = .ok (.new 7, 3) := by decide +kernel
theorem dX11_init_8 : decode cX11_init 8 = .ok (.dup, 1) := by decide +kernel
theorem dX11_init_9 : decode cX11_init 9 = .ok (.invokespecial 9, 3) := by decide +kernel
theorem dX11_init_12 : decode cX11_init 12 = .ok (.putfield 10, 3) := by decide +kernel
theorem dX11_init_15 : decode cX11_init 15 = .ok (.aload_n 0, 1) := by decide +kernel
theorem dX11_init_16 : decode cX11_init 16 = .ok (.new 16, 3) := by decide +kernel
theorem dX11_init_19 : decode cX11_init 19 = .ok (.dup, 1) := by decide +kernel
theorem dX11_init_20 : decode cX11_init 20 = .ok (.invokespecial 18, 3) := by decide +kernel
theorem dX11_init_23 : decode cX11_init 23 = .ok (.putfield 19, 3) := by decide +kernel
theorem dX11_init_26 : decode cX11_init 26 = .ok (.aload_n 0, 1) := by decide +kernel
theorem dX11_init_27 : decode cX11_init 27 = .ok (.new 23, 3) := by decide +kernel
theorem dX11_init_30 : decode cX11_init 30 = .ok (.dup, 1) := by decide +kernel
theorem dX11_init_31 : decode cX11_init 31 = .ok (.aload_n 0, 1) := by decide +kernel
theorem dX11_init_32 : decode cX11_init 32 = .ok (.getfield 19, 3) := by decide +kernel
theorem dX11_init_35 : decode cX11_init 35 = .ok (.invokespecial 25, 3) := by decide +kernel
theorem dX11_init_38 : decode cX11_init 38 = .ok (.putfield 28, 3) := by decide +kernel
theorem dX11_init_41 : decode cX11_init 41 = .ok (.aload_n 0, 1) := by decide +kernel
theorem dX11_init_42 : decode cX11_init 42 = .ok (.new 32, 3) := by decide +kernel
theorem dX11_init_45 : decode cX11_init 45 = .ok (.dup, 1) := by decide +kernel
theorem dX11_init_46 : decode cX11_init 46 = .ok (.aload_n 0, 1) := by decide +kernel
theorem dX11_init_47 : decode cX11_init 47 = .ok (.getfield 19, 3) := by decide +kernel
theorem dX11_init_50 : decode cX11_init 50 = .ok (.aload_n 0, 1) := by decide +kernel
theorem dX11_init_51 : decode cX11_init 51 = .ok (.getfield 28, 3) := by decide +kernel
theorem dX11_init_54 : decode cX11_init 54 = .ok (.invokespecial 34, 3) := by decide +kernel
theorem dX11_init_57 : decode cX11_init 57 = .ok (.putfield 37, 3) := by decide +kernel
theorem dX11_init_60 : decode cX11_init 60 = .ok (.aload_n 0, 1) := by decide +kernel
theorem dX11_init_61 : decode cX11_init 61 = .ok (.new 41, 3) := by decide +kernel
theorem dX11_init_64 : decode cX11_init 64 = .ok (.dup, 1) := by decide +kernel
theorem dX11_init_65 : decode cX11_init 65 = .ok (.aload_n 0, 1) := by decide +kernel
theorem dX11_init_66 : decode cX11_init 66 = .ok (.getfield 19, 3) := by decide +kernel
theorem dX11_init_69 : decode cX11_init 69 = .ok (.aload_n 0, 1) := by decide +kernel
theorem dX11_init_70 : decode cX11_init 70 = .ok (.getfield 28, 3) := by decide +kernel
theorem dX11_init_73 : decode cX11_init 73 = .ok (.aload_n 0, 1) := by decide +kernel
theorem dX11_init_74 : decode cX11_init 74 = .ok (.getfield 10, 3) := by decide +kernel
theorem dX11_init_77 : decode cX11_init 77 = .ok (.aload_n 0, 1) := by decide +kernel
theorem dX11_init_78 : decode cX11_init 78 = .ok (.getfield 37, 3) := by decide +kernel
theorem dX11_init_81 : decode cX11_init 81 = .ok (.invokespecial 43, 3) := by decide +kernel
theorem dX11_init_84 : decode cX11_init 84 = .ok (.putfield 46, 3) := by decide +kernel
theorem dX11_init_87 : decode cX11_init 87 = .ok (.aload_n 0, 1) := by decide +kernel
theorem dX11_init_88 : decode cX11_init 88 = .ok (.new 50, 3) := by decide +kernel
theorem dX11_init_91 : decode cX11_init 91 = .ok (.dup, 1) := by decide +kernel
theorem dX11_init_92 : decode cX11_init 92 = .ok (.aload_n 0, 1) := by decide +kernel
theorem dX11_init_93 : decode cX11_init 93 = .ok (.getfield 10, 3) := by decide +kernel
theorem dX11_init_96 : decode cX11_init 96 = .ok (.aload_n 0, 1) := by decide +kernel
theorem dX11_init_97 : decode cX11_init 97 = .ok (.getfield 19, 3) := by decide +kernel
theorem dX11_init_100 : decode cX11_init 100 = .ok (.invokespecial 52, 3) := by decide +kernel
theorem dX11_init_103 : decode cX11_init 103 = .ok (.putfield 55, 3) := by decide +kernel
theorem dX11_init_106 : decode cX11_init 106 = .ok (.aload_n 0, 1) := by decide +kernel
theorem dX11_init_107 : decode cX11_init 107 = .ok (.bipush 80, 2) := by decide +kernel
theorem dX11_init_109 : decode cX11_init 109 = .ok (.newarray .byte, 2) := by decide +kernel
theorem dX11_init_111 : decode cX11_init 111 = .ok (.putfield 59, 3) := by decide +kernel
theorem dX11_init_114 : decode cX11_init 114 = .ok (.return_, 1) := by decide +kernel
theorem wX11_init {x : GX} {n0 sl0 : Nat} (X : Cx x cX11_init RX11 none n0 sl0 2 36) {out : Mm} (hE : Ends x n0 sl0 none out) (hn : xn x = 1) (hin : (xt x).name = "<init>") (fu : Nat)   (a0 : Nat)  (M : Mm) (h : fX11_init fu  a0 M = some out) : Gw x M 0 [(0, pR (some a0))] [] := by
  unfold fX11_init at h
  refine g_aload_n X (pc := 0) 0 rfl rfl dX11_init_0 ?_
  refine g_objInit X (pc := 1) (o := (some a0)) ⟨_, rfl⟩ tb_31 tb_32 tb_33 ⟨by decide, Nat.le_of_ble_eq_true rfl⟩ dX11_init_1 ?_
  refine g_aload_n X (pc := 4) 0 rfl rfl dX11_init_4 ?_
  obtain ⟨v1, M2, eM2, h⟩ := b2d h
  refine g_new X (pc := 5) fk_8_0 dvX8 eM2 tb_34 tb_35 tb_2 dX11_init_5 ?_
  refine g_dup X (pc := 8) rfl dX11_init_8 ?_
  obtain ⟨M3, eM3, h⟩ := bd h
  refine g_callI X (pc := 9) (M' := M3) (as := []) (as' := []) (st := [pR (some v1), pR (some a0)]) (ctX8_init _ _ _ _ _ _ fu v1  M2 _ eM3) tb_38 tb_36 tb_37 tb_2 rfl hyX8_init rfl rfl ⟨by decide, by decide⟩ (Nat.le_of_ble_eq_true rfl) dX11_init_9 ?_
  obtain ⟨M4, eM4, h⟩ := bd h
  refine g_putG X (pc := 12) fk_11_0 rfl rfl rfl eM4 tb_314 (Or.inr ⟨rfl, hin, rfl⟩) dX11_init_12 ?_
  refine g_aload_n X (pc := 15) 0 rfl rfl dX11_init_15 ?_
  obtain ⟨v5, M6, eM6, h⟩ := b2d h
  refine g_new X (pc := 16) fk_10_0 dvX10 eM6 tb_54 tb_55 tb_3 dX11_init_16 ?_
  refine g_dup X (pc := 19) rfl dX11_init_19 ?_
  obtain ⟨M7, eM7, h⟩ := bd h
  refine g_callI X (pc := 20) (M' := M7) (as := []) (as' := []) (st := [pR (some v5), pR (some a0)]) (ctX10_init _ _ _ _ _ _ fu v5  M6 _ eM7) tb_58 tb_56 tb_57 tb_3 rfl hyX10_init rfl rfl ⟨by decide, by decide⟩ (Nat.le_of_ble_eq_true rfl) dX11_init_20 ?_
  obtain ⟨M8, eM8, h⟩ := bd h
  refine g_putG X (pc := 23) fk_11_1 rfl rfl rfl eM8 tb_315 (Or.inr ⟨rfl, hin, rfl⟩) dX11_init_23 ?_
  refine g_aload_n X (pc := 26) 0 rfl rfl dX11_init_26 ?_
  obtain ⟨v9, M10, eM10, h⟩ := b2d h
  refine g_new X (pc := 27) fk_4_0 dvX4 eM10 tb_90 tb_91 tb_4 dX11_init_27 ?_
  refine g_dup X (pc := 30) rfl dX11_init_30 ?_
  refine g_aload_n X (pc := 31) 0 rfl rfl dX11_init_31 ?_
  obtain ⟨v11, ev11, h⟩ := bd h
  refine g_getR X (pc := 32) fk_11_1 rfl rfl ev11 tb_315 dX11_init_32 ?_
  obtain ⟨M12, eM12, h⟩ := bd h
  refine g_callI X (pc := 35) (M' := M12) (as := [pR v11]) (as' := [pR v11]) (st := [pR (some v9), pR (some a0)]) (ctX4_init _ _ _ _ _ _ fu v9 v11 M10 _ eM12) tb_94 tb_92 tb_93 tb_4 rfl hyX4_init rfl rfl ⟨by decide, by decide⟩ (Nat.le_of_ble_eq_true rfl) dX11_init_35 ?_
  obtain ⟨M13, eM13, h⟩ := bd h
  refine g_putG X (pc := 38) fk_11_2 rfl rfl rfl eM13 tb_316 (Or.inr ⟨rfl, hin, rfl⟩) dX11_init_38 ?_
  refine g_aload_n X (pc := 41) 0 rfl rfl dX11_init_41 ?_
  obtain ⟨v14, M15, eM15, h⟩ := b2d h
  refine g_new X (pc := 42) fk_3_0 dvX3 eM15 tb_150 tb_151 tb_5 dX11_init_42 ?_
  refine g_dup X (pc := 45) rfl dX11_init_45 ?_
  refine g_aload_n X (pc := 46) 0 rfl rfl dX11_init_46 ?_
  obtain ⟨v16, ev16, h⟩ := bd h
  refine g_getR X (pc := 47) fk_11_1 rfl rfl ev16 tb_315 dX11_init_47 ?_
  refine g_aload_n X (pc := 50) 0 rfl rfl dX11_init_50 ?_
  obtain ⟨v17, ev17, h⟩ := bd h
  refine g_getR X (pc := 51) fk_11_2 rfl rfl ev17 tb_316 dX11_init_51 ?_
  obtain ⟨M18, eM18, h⟩ := bd h
  refine g_callI X (pc := 54) (M' := M18) (as := [pR v16, pR v17]) (as' := [pR v17, pR v16]) (st := [pR (some v14), pR (some a0)]) (ctX3_init _ _ _ _ _ _ fu v14 v16 v17 M15 _ eM18) tb_154 tb_152 tb_153 tb_5 rfl hyX3_init rfl rfl ⟨by decide, by decide⟩ (Nat.le_of_ble_eq_true rfl) dX11_init_54 ?_
  obtain ⟨M19, eM19, h⟩ := bd h
  refine g_putG X (pc := 57) fk_11_3 rfl rfl rfl eM19 tb_317 (Or.inr ⟨rfl, hin, rfl⟩) dX11_init_57 ?_
  refine g_aload_n X (pc := 60) 0 rfl rfl dX11_init_60 ?_
  obtain ⟨v20, M21, eM21, h⟩ := b2d h
  refine g_new X (pc := 61) fk_9_0 dvX9 eM21 tb_226 tb_227 tb_6 dX11_init_61 ?_
  refine g_dup X (pc := 64) rfl dX11_init_64 ?_
  refine g_aload_n X (pc := 65) 0 rfl rfl dX11_init_65 ?_
  obtain ⟨v22, ev22, h⟩ := bd h
  refine g_getR X (pc := 66) fk_11_1 rfl rfl ev22 tb_315 dX11_init_66 ?_
  refine g_aload_n X (pc := 69) 0 rfl rfl dX11_init_69 ?_
  obtain ⟨v23, ev23, h⟩ := bd h
  refine g_getR X (pc := 70) fk_11_2 rfl rfl ev23 tb_316 dX11_init_70 ?_
  refine g_aload_n X (pc := 73) 0 rfl rfl dX11_init_73 ?_
  obtain ⟨v24, ev24, h⟩ := bd h
  refine g_getR X (pc := 74) fk_11_0 rfl rfl ev24 tb_314 dX11_init_74 ?_
  refine g_aload_n X (pc := 77) 0 rfl rfl dX11_init_77 ?_
  obtain ⟨v25, ev25, h⟩ := bd h
  refine g_getR X (pc := 78) fk_11_3 rfl rfl ev25 tb_317 dX11_init_78 ?_
  obtain ⟨M26, eM26, h⟩ := bd h
  refine g_callI X (pc := 81) (M' := M26) (as := [pR v22, pR v23, pR v24, pR v25]) (as' := [pR v25, pR v24, pR v23, pR v22]) (st := [pR (some v20), pR (some a0)]) (ctX9_init _ _ _ _ _ _ fu v20 v22 v23 v24 v25 M21 _ eM26) tb_230 tb_228 tb_229 tb_6 rfl hyX9_init rfl rfl ⟨by decide, by decide⟩ (Nat.le_of_ble_eq_true rfl) dX11_init_81 ?_
  obtain ⟨M27, eM27, h⟩ := bd h
  refine g_putG X (pc := 84) fk_11_4 rfl rfl rfl eM27 tb_318 (Or.inr ⟨rfl, hin, rfl⟩) dX11_init_84 ?_
  refine g_aload_n X (pc := 87) 0 rfl rfl dX11_init_87 ?_
  obtain ⟨v28, M29, eM29, h⟩ := b2d h
  refine g_new X (pc := 88) fk_7_0 dvX7 eM29 tb_250 tb_251 tb_7 dX11_init_88 ?_
  refine g_dup X (pc := 91) rfl dX11_init_91 ?_
  refine g_aload_n X (pc := 92) 0 rfl rfl dX11_init_92 ?_
  obtain ⟨v30, ev30, h⟩ := bd h
  refine g_getR X (pc := 93) fk_11_0 rfl rfl ev30 tb_314 dX11_init_93 ?_
  refine g_aload_n X (pc := 96) 0 rfl rfl dX11_init_96 ?_
  obtain ⟨v31, ev31, h⟩ := bd h
  refine g_getR X (pc := 97) fk_11_1 rfl rfl ev31 tb_315 dX11_init_97 ?_
  obtain ⟨M32, eM32, h⟩ := bd h
  refine g_callI X (pc := 100) (M' := M32) (as := [pR v30, pR v31]) (as' := [pR v31, pR v30]) (st := [pR (some v28), pR (some a0)]) (ctX7_init _ _ _ _ _ _ fu v28 v30 v31 M29 _ eM32) tb_254 tb_252 tb_253 tb_7 rfl hyX7_init rfl rfl ⟨by decide, by decide⟩ (Nat.le_of_ble_eq_true rfl) dX11_init_100 ?_
  obtain ⟨M33, eM33, h⟩ := bd h
  refine g_putG X (pc := 103) fk_11_5 rfl rfl rfl eM33 tb_319 (Or.inr ⟨rfl, hin, rfl⟩) dX11_init_103 ?_
  refine g_aload_n X (pc := 106) 0 rfl rfl dX11_init_106 ?_
  refine g_bipush X (pc := 107) (v := 80) dX11_init_107 (by decide) ?_
  obtain ⟨v34, M35, eM35, h⟩ := b2d h
  refine g_newarray X (pc := 109) (at9 := .byte) (k := 0) rfl (by decide) rfl (by decide) (fun _ _ q => q) tb_53 eM35 dX11_init_109 ?_
  obtain ⟨M36, eM36, h⟩ := bd h
  refine g_putG X (pc := 111) fk_11_6 rfl rfl rfl eM36 tb_320 (Or.inl rfl) dX11_init_111 ?_
  obtain rfl := Option.some.inj h
  exact g_return X hE dX11_init_114
theorem hyX11_init : yX11_init.cls ≠ "java/lang/invoke/MethodHandle" ∧ yX11_init.cls ≠ "java/lang/invoke/VarHandle" ∧ (parseMethodDescriptor yX11_init.desc).map (fun d => d.parameters.length) = some 0 := ⟨by decide +kernel, by decide +kernel, by decide +kernel⟩
theorem ctX11_init (l : Launch) (E : Nat → Nat) (D : va_G) (dA : Nat → ClassId) (lo : Nat) (H0 : Heap) (fu : Nat) (a0 : Nat) (M : Mm) (out : Mm) (h : fX11_init fu a0 M = some out) : Ct l E D dA lo H0 yX11_init cX11_init 1 none 2 36 [pR (some a0)] M none out := by
  refine ct_of (by decide +kernel) (Nat.le_of_ble_eq_true rfl) ?_
  intro x hl he hd ha ho hh hn hin X hE
  exact wX11_init X hE hn hin fu a0 M h
/-! WebHost.feed(IIIII)I -/
def fX11_feed_L55 (fu : Nat)  (a0 : Nat) (a1 : Int32) (a2 : Int32) (a3 : Int32) (a4 : Int32) (a5 : Int32)  (M : Mm) : Option (Int32 × Mm) :=
    (gR M 11 710 (some a0)).bind fun v1 =>
    (gI M 11 711 (some a0)).bind fun v2 =>
    (fX11_putFour fu  v1 v2 a1 M).bind fun M3 =>
    (gR M3 11 710 (some a0)).bind fun v4 =>
    (gI M3 11 711 (some a0)).bind fun v5 =>
    (fX11_putFour fu  v4 (v5 + (4 : Int32)) a2 M3).bind fun M6 =>
    (gR M6 11 710 (some a0)).bind fun v7 =>
    (gI M6 11 711 (some a0)).bind fun v8 =>
    (fX11_putFour fu  v7 (v8 + (8 : Int32)) a3 M6).bind fun M9 =>
    (gR M9 11 710 (some a0)).bind fun v10 =>
    (gI M9 11 711 (some a0)).bind fun v11 =>
    (fX11_putFour fu  v10 (v11 + (12 : Int32)) a4 M9).bind fun M12 =>
    (gR M12 11 710 (some a0)).bind fun v13 =>
    (gI M12 11 711 (some a0)).bind fun v14 =>
    (fX11_putFour fu  v13 (v14 + (16 : Int32)) a5 M12).bind fun M15 =>
    (gI M15 11 711 (some a0)).bind fun v16 =>
    (pF M15 11 711 (some a0) (v16 + (20 : Int32))).bind fun M17 =>
    (gI M17 11 711 (some a0)).bind fun v18 =>
    some (v18, M17)
def fX11_feed (fu : Nat)  (a0 : Nat) (a1 : Int32) (a2 : Int32) (a3 : Int32) (a4 : Int32) (a5 : Int32)  (M : Mm) : Option (Int32 × Mm) :=
    (gI M 11 711 (some a0)).bind fun v1 =>
    if (v1 + (20 : Int32)) ≤ (65540 : Int32) then (
    (gI M 11 711 (some a0)).bind fun v2 =>
    (gR M 11 710 (some a0)).bind fun v3 =>
    (aL M 100 v3).bind fun v4 =>
    if (v2 + (20 : Int32)) ≤ v4 then (
    fX11_feed_L55 fu  a0 a1 a2 a3 a4 a5 M)
    else (
    (gR M 11 710 (some a0)).bind fun v5 =>
    (gR M 11 710 (some a0)).bind fun v6 =>
    (aL M 100 v6).bind fun v7 =>
    b2 (fJ7_copyOf_9075b fu  v5 (jmin (((2 : Int32) * v7) + (20 : Int32)) (65540 : Int32)) M) fun v9 M8 =>
    (pG M8 11 710 (some a0) v9).bind fun M10 =>
    fX11_feed_L55 fu  a0 a1 a2 a3 a4 a5 M10))
    else (
    some ((-1 : Int32), M))
theorem dX11_feed_0 : decode cX11_feed 0 = .ok (.aload_n 0, 1) := by decide +kernel
theorem dX11_feed_1 : decode cX11_feed 1 = .ok (.getfield 63, 3) := by decide +kernel
theorem dX11_feed_4 : decode cX11_feed 4 = .ok (.bipush 20, 2) := by decide +kernel
theorem dX11_feed_6 : decode cX11_feed 6 = .ok (.iadd, 1) := by decide +kernel
theorem dX11_feed_7 : decode cX11_feed 7 = .ok (.ldc 67, 2) := by decide +kernel
theorem dX11_feed_9 : decode cX11_feed 9 = .ok (.if_icmp .le 5, 3) := by decide +kernel
theorem dX11_feed_12 : decode cX11_feed 12 = .ok (.iconst (-1), 1) := by decide +kernel
theorem dX11_feed_13 : decode cX11_feed 13 = .ok (.ireturn, 1) := by decide +kernel
theorem dX11_feed_14 : decode cX11_feed 14 = .ok (.aload_n 0, 1) := by decide +kernel
theorem dX11_feed_15 : decode cX11_feed 15 = .ok (.getfield 63, 3) := by decide +kernel
theorem dX11_feed_18 : decode cX11_feed 18 = .ok (.bipush 20, 2) := by decide +kernel
theorem dX11_feed_20 : decode cX11_feed 20 = .ok (.iadd, 1) := by decide +kernel
theorem dX11_feed_21 : decode cX11_feed 21 = .ok (.aload_n 0, 1) := by decide +kernel
theorem dX11_feed_22 : decode cX11_feed 22 = .ok (.getfield 59, 3) := by decide +kernel
theorem dX11_feed_25 : decode cX11_feed 25 = .ok (.arraylength, 1) := by decide +kernel
theorem dX11_feed_26 : decode cX11_feed 26 = .ok (.if_icmp .le 29, 3) := by decide +kernel
theorem dX11_feed_29 : decode cX11_feed 29 = .ok (.aload_n 0, 1) := by decide +kernel
theorem dX11_feed_30 : decode cX11_feed 30 = .ok (.aload_n 0, 1) := by decide +kernel
theorem dX11_feed_31 : decode cX11_feed 31 = .ok (.getfield 59, 3) := by decide +kernel
theorem dX11_feed_34 : decode cX11_feed 34 = .ok (.iconst 2, 1) := by decide +kernel
theorem dX11_feed_35 : decode cX11_feed 35 = .ok (.aload_n 0, 1) := by decide +kernel
theorem dX11_feed_36 : decode cX11_feed 36 = .ok (.getfield 59, 3) := by decide +kernel
theorem dX11_feed_39 : decode cX11_feed 39 = .ok (.arraylength, 1) := by decide +kernel
theorem dX11_feed_40 : decode cX11_feed 40 = .ok (.imul, 1) := by decide +kernel
theorem dX11_feed_41 : decode cX11_feed 41 = .ok (.bipush 20, 2) := by decide +kernel
theorem dX11_feed_43 : decode cX11_feed 43 = .ok (.iadd, 1) := by decide +kernel
theorem dX11_feed_44 : decode cX11_feed 44 = .ok (.ldc 67, 2) := by decide +kernel
theorem dX11_feed_46 : decode cX11_feed 46 = .ok (.invokestatic 68, 3) := by decide +kernel
theorem dX11_feed_49 : decode cX11_feed 49 = .ok (.invokestatic 74, 3) := by decide +kernel
theorem dX11_feed_52 : decode cX11_feed 52 = .ok (.putfield 59, 3) := by decide +kernel
theorem dX11_feed_55 : decode cX11_feed 55 = .ok (.aload_n 0, 1) := by decide +kernel
theorem dX11_feed_56 : decode cX11_feed 56 = .ok (.getfield 59, 3) := by decide +kernel
theorem dX11_feed_59 : decode cX11_feed 59 = .ok (.aload_n 0, 1) := by decide +kernel
theorem dX11_feed_60 : decode cX11_feed 60 = .ok (.getfield 63, 3) := by decide +kernel
theorem dX11_feed_63 : decode cX11_feed 63 = .ok (.iload_n 1, 1) := by decide +kernel
theorem dX11_feed_64 : decode cX11_feed 64 = .ok (.invokestatic 80, 3) := by decide +kernel
theorem dX11_feed_67 : decode cX11_feed 67 = .ok (.aload_n 0, 1) := by decide +kernel
theorem dX11_feed_68 : decode cX11_feed 68 = .ok (.getfield 59, 3) := by decide +kernel
theorem dX11_feed_71 : decode cX11_feed 71 = .ok (.aload_n 0, 1) := by decide +kernel
theorem dX11_feed_72 : decode cX11_feed 72 = .ok (.getfield 63, 3) := by decide +kernel
theorem dX11_feed_75 : decode cX11_feed 75 = .ok (.iconst 4, 1) := by decide +kernel
theorem dX11_feed_76 : decode cX11_feed 76 = .ok (.iadd, 1) := by decide +kernel
theorem dX11_feed_77 : decode cX11_feed 77 = .ok (.iload_n 2, 1) := by decide +kernel
theorem dX11_feed_78 : decode cX11_feed 78 = .ok (.invokestatic 80, 3) := by decide +kernel
theorem dX11_feed_81 : decode cX11_feed 81 = .ok (.aload_n 0, 1) := by decide +kernel
theorem dX11_feed_82 : decode cX11_feed 82 = .ok (.getfield 59, 3) := by decide +kernel
theorem dX11_feed_85 : decode cX11_feed 85 = .ok (.aload_n 0, 1) := by decide +kernel
theorem dX11_feed_86 : decode cX11_feed 86 = .ok (.getfield 63, 3) := by decide +kernel
theorem dX11_feed_89 : decode cX11_feed 89 = .ok (.bipush 8, 2) := by decide +kernel
theorem dX11_feed_91 : decode cX11_feed 91 = .ok (.iadd, 1) := by decide +kernel
theorem dX11_feed_92 : decode cX11_feed 92 = .ok (.iload_n 3, 1) := by decide +kernel
theorem dX11_feed_93 : decode cX11_feed 93 = .ok (.invokestatic 80, 3) := by decide +kernel
theorem dX11_feed_96 : decode cX11_feed 96 = .ok (.aload_n 0, 1) := by decide +kernel
theorem dX11_feed_97 : decode cX11_feed 97 = .ok (.getfield 59, 3) := by decide +kernel
theorem dX11_feed_100 : decode cX11_feed 100 = .ok (.aload_n 0, 1) := by decide +kernel
theorem dX11_feed_101 : decode cX11_feed 101 = .ok (.getfield 63, 3) := by decide +kernel
theorem dX11_feed_104 : decode cX11_feed 104 = .ok (.bipush 12, 2) := by decide +kernel
theorem dX11_feed_106 : decode cX11_feed 106 = .ok (.iadd, 1) := by decide +kernel
theorem dX11_feed_107 : decode cX11_feed 107 = .ok (.iload 4, 2) := by decide +kernel
theorem dX11_feed_109 : decode cX11_feed 109 = .ok (.invokestatic 80, 3) := by decide +kernel
theorem dX11_feed_112 : decode cX11_feed 112 = .ok (.aload_n 0, 1) := by decide +kernel
theorem dX11_feed_113 : decode cX11_feed 113 = .ok (.getfield 59, 3) := by decide +kernel
theorem dX11_feed_116 : decode cX11_feed 116 = .ok (.aload_n 0, 1) := by decide +kernel
theorem dX11_feed_117 : decode cX11_feed 117 = .ok (.getfield 63, 3) := by decide +kernel
theorem dX11_feed_120 : decode cX11_feed 120 = .ok (.bipush 16, 2) := by decide +kernel
theorem dX11_feed_122 : decode cX11_feed 122 = .ok (.iadd, 1) := by decide +kernel
theorem dX11_feed_123 : decode cX11_feed 123 = .ok (.iload 5, 2) := by decide +kernel
theorem dX11_feed_125 : decode cX11_feed 125 = .ok (.invokestatic 80, 3) := by decide +kernel
theorem dX11_feed_128 : decode cX11_feed 128 = .ok (.aload_n 0, 1) := by decide +kernel
theorem dX11_feed_129 : decode cX11_feed 129 = .ok (.dup, 1) := by decide +kernel
theorem dX11_feed_130 : decode cX11_feed 130 = .ok (.getfield 63, 3) := by decide +kernel
theorem dX11_feed_133 : decode cX11_feed 133 = .ok (.bipush 20, 2) := by decide +kernel
theorem dX11_feed_135 : decode cX11_feed 135 = .ok (.iadd, 1) := by decide +kernel
theorem dX11_feed_136 : decode cX11_feed 136 = .ok (.putfield 63, 3) := by decide +kernel
theorem dX11_feed_139 : decode cX11_feed 139 = .ok (.aload_n 0, 1) := by decide +kernel
theorem dX11_feed_140 : decode cX11_feed 140 = .ok (.getfield 63, 3) := by decide +kernel
theorem dX11_feed_143 : decode cX11_feed 143 = .ok (.ireturn, 1) := by decide +kernel
theorem wX11_feed_L55 {x : GX} {n0 sl0 : Nat} (X : Cx x cX11_feed RX11 (some .int) n0 sl0 2 62) {out : Int32 × Mm} (hE : Ends x n0 sl0 (some (pI out.1)) out.2) (hn : xn x = 6) (fu : Nat)   (a0 : Nat) (a1 : Int32) (a2 : Int32) (a3 : Int32) (a4 : Int32) (a5 : Int32)  (M : Mm) (h : fX11_feed_L55 fu  a0 a1 a2 a3 a4 a5 M = some out) : Gw x M 55 [(0, pR (some a0)), (1, pI a1), (2, pI a2), (3, pI a3), (4, pI a4), (5, pI a5)] [] := by
  unfold fX11_feed_L55 at h
  refine g_aload_n X (pc := 55) 0 rfl rfl dX11_feed_55 ?_
  obtain ⟨v1, ev1, h⟩ := bd h
  refine g_getR X (pc := 56) fk_11_6 rfl rfl ev1 tb_320 dX11_feed_56 ?_
  refine g_aload_n X (pc := 59) 0 rfl rfl dX11_feed_59 ?_
  obtain ⟨v2, ev2, h⟩ := bd h
  refine g_getI X (pc := 60) fk_11_7 rfl rfl ev2 tb_321 dX11_feed_60 ?_
  refine g_iload_n X (pc := 63) 1 rfl rfl dX11_feed_63 ?_
  obtain ⟨M3, eM3, h⟩ := bd h
  refine g_callS X (pc := 64) (M' := M3) (ro := none) (as := [pR v1, pI v2, pI a1]) (as' := [pI a1, pI v2, pR v1]) (st := []) (ctX11_putFour _ _ _ _ _ _ fu  v1 v2 a1 M _ eM3) tb_366 tb_364 tb_365 tb_1 hyX11_putFour rfl rfl ⟨by decide, by decide⟩ (Nat.le_of_ble_eq_true rfl) dX11_feed_64 ?_
  refine g_aload_n X (pc := 67) 0 rfl rfl dX11_feed_67 ?_
  obtain ⟨v4, ev4, h⟩ := bd h
  refine g_getR X (pc := 68) fk_11_6 rfl rfl ev4 tb_320 dX11_feed_68 ?_
  refine g_aload_n X (pc := 71) 0 rfl rfl dX11_feed_71 ?_
  obtain ⟨v5, ev5, h⟩ := bd h
  refine g_getI X (pc := 72) fk_11_7 rfl rfl ev5 tb_321 dX11_feed_72 ?_
  refine g_iconst X (pc := 75) (v := 4) dX11_feed_75 (by decide) ?_
  refine g_iadd X (pc := 76) dX11_feed_76 ?_
  refine g_iload_n X (pc := 77) 2 rfl rfl dX11_feed_77 ?_
  obtain ⟨M6, eM6, h⟩ := bd h
  refine g_callS X (pc := 78) (M' := M6) (ro := none) (as := [pR v4, pI (v5 + (4 : Int32)), pI a2]) (as' := [pI a2, pI (v5 + (4 : Int32)), pR v4]) (st := []) (ctX11_putFour _ _ _ _ _ _ fu  v4 (v5 + (4 : Int32)) a2 M3 _ eM6) tb_366 tb_364 tb_365 tb_1 hyX11_putFour rfl rfl ⟨by decide, by decide⟩ (Nat.le_of_ble_eq_true rfl) dX11_feed_78 ?_
  refine g_aload_n X (pc := 81) 0 rfl rfl dX11_feed_81 ?_
  obtain ⟨v7, ev7, h⟩ := bd h
  refine g_getR X (pc := 82) fk_11_6 rfl rfl ev7 tb_320 dX11_feed_82 ?_
  refine g_aload_n X (pc := 85) 0 rfl rfl dX11_feed_85 ?_
  obtain ⟨v8, ev8, h⟩ := bd h
  refine g_getI X (pc := 86) fk_11_7 rfl rfl ev8 tb_321 dX11_feed_86 ?_
  refine g_bipush X (pc := 89) (v := 8) dX11_feed_89 (by decide) ?_
  refine g_iadd X (pc := 91) dX11_feed_91 ?_
  refine g_iload_n X (pc := 92) 3 rfl rfl dX11_feed_92 ?_
  obtain ⟨M9, eM9, h⟩ := bd h
  refine g_callS X (pc := 93) (M' := M9) (ro := none) (as := [pR v7, pI (v8 + (8 : Int32)), pI a3]) (as' := [pI a3, pI (v8 + (8 : Int32)), pR v7]) (st := []) (ctX11_putFour _ _ _ _ _ _ fu  v7 (v8 + (8 : Int32)) a3 M6 _ eM9) tb_366 tb_364 tb_365 tb_1 hyX11_putFour rfl rfl ⟨by decide, by decide⟩ (Nat.le_of_ble_eq_true rfl) dX11_feed_93 ?_
  refine g_aload_n X (pc := 96) 0 rfl rfl dX11_feed_96 ?_
  obtain ⟨v10, ev10, h⟩ := bd h
  refine g_getR X (pc := 97) fk_11_6 rfl rfl ev10 tb_320 dX11_feed_97 ?_
  refine g_aload_n X (pc := 100) 0 rfl rfl dX11_feed_100 ?_
  obtain ⟨v11, ev11, h⟩ := bd h
  refine g_getI X (pc := 101) fk_11_7 rfl rfl ev11 tb_321 dX11_feed_101 ?_
  refine g_bipush X (pc := 104) (v := 12) dX11_feed_104 (by decide) ?_
  refine g_iadd X (pc := 106) dX11_feed_106 ?_
  refine g_iload X (pc := 107) 4 rfl dX11_feed_107 ?_
  obtain ⟨M12, eM12, h⟩ := bd h
  refine g_callS X (pc := 109) (M' := M12) (ro := none) (as := [pR v10, pI (v11 + (12 : Int32)), pI a4]) (as' := [pI a4, pI (v11 + (12 : Int32)), pR v10]) (st := []) (ctX11_putFour _ _ _ _ _ _ fu  v10 (v11 + (12 : Int32)) a4 M9 _ eM12) tb_366 tb_364 tb_365 tb_1 hyX11_putFour rfl rfl ⟨by decide, by decide⟩ (Nat.le_of_ble_eq_true rfl) dX11_feed_109 ?_
  refine g_aload_n X (pc := 112) 0 rfl rfl dX11_feed_112 ?_
  obtain ⟨v13, ev13, h⟩ := bd h
  refine g_getR X (pc := 113) fk_11_6 rfl rfl ev13 tb_320 dX11_feed_113 ?_
  refine g_aload_n X (pc := 116) 0 rfl rfl dX11_feed_116 ?_
  obtain ⟨v14, ev14, h⟩ := bd h
  refine g_getI X (pc := 117) fk_11_7 rfl rfl ev14 tb_321 dX11_feed_117 ?_
  refine g_bipush X (pc := 120) (v := 16) dX11_feed_120 (by decide) ?_
  refine g_iadd X (pc := 122) dX11_feed_122 ?_
  refine g_iload X (pc := 123) 5 rfl dX11_feed_123 ?_
  obtain ⟨M15, eM15, h⟩ := bd h
  refine g_callS X (pc := 125) (M' := M15) (ro := none) (as := [pR v13, pI (v14 + (16 : Int32)), pI a5]) (as' := [pI a5, pI (v14 + (16 : Int32)), pR v13]) (st := []) (ctX11_putFour _ _ _ _ _ _ fu  v13 (v14 + (16 : Int32)) a5 M12 _ eM15) tb_366 tb_364 tb_365 tb_1 hyX11_putFour rfl rfl ⟨by decide, by decide⟩ (Nat.le_of_ble_eq_true rfl) dX11_feed_125 ?_
  refine g_aload_n X (pc := 128) 0 rfl rfl dX11_feed_128 ?_
  refine g_dup X (pc := 129) rfl dX11_feed_129 ?_
  obtain ⟨v16, ev16, h⟩ := bd h
  refine g_getI X (pc := 130) fk_11_7 rfl rfl ev16 tb_321 dX11_feed_130 ?_
  refine g_bipush X (pc := 133) (v := 20) dX11_feed_133 (by decide) ?_
  refine g_iadd X (pc := 135) dX11_feed_135 ?_
  obtain ⟨M17, eM17, h⟩ := bd h
  refine g_putI X (pc := 136) fk_11_7 rfl rfl rfl eM17 tb_321 (Or.inl rfl) dX11_feed_136 ?_
  refine g_aload_n X (pc := 139) 0 rfl rfl dX11_feed_139 ?_
  obtain ⟨v18, ev18, h⟩ := bd h
  refine g_getI X (pc := 140) fk_11_7 rfl rfl ev18 tb_321 dX11_feed_140 ?_
  obtain rfl := Option.some.inj h
  exact g_ireturn X hE dX11_feed_143
theorem wX11_feed {x : GX} {n0 sl0 : Nat} (X : Cx x cX11_feed RX11 (some .int) n0 sl0 2 62) {out : Int32 × Mm} (hE : Ends x n0 sl0 (some (pI out.1)) out.2) (hn : xn x = 6) (fu : Nat)   (a0 : Nat) (a1 : Int32) (a2 : Int32) (a3 : Int32) (a4 : Int32) (a5 : Int32)  (M : Mm) (h : fX11_feed fu  a0 a1 a2 a3 a4 a5 M = some out) : Gw x M 0 [(0, pR (some a0)), (1, pI a1), (2, pI a2), (3, pI a3), (4, pI a4), (5, pI a5)] [] := by
  unfold fX11_feed at h
  refine g_aload_n X (pc := 0) 0 rfl rfl dX11_feed_0 ?_
  obtain ⟨v1, ev1, h⟩ := bd h
  refine g_getI X (pc := 1) fk_11_7 rfl rfl ev1 tb_321 dX11_feed_1 ?_
  refine g_bipush X (pc := 4) (v := 20) dX11_feed_4 (by decide) ?_
  refine g_iadd X (pc := 6) dX11_feed_6 ?_
  refine g_ldc X (pc := 7) tb_346 dX11_feed_7 ?_
  refine g_icmp_le X (pc := 9) (tgt := 14) dX11_feed_9 (by decide) (fun hc => ?_) (fun hc => ?_)
  · have h := (if_pos hc).symm.trans h
    refine g_aload_n X (pc := 14) 0 rfl rfl dX11_feed_14 ?_
    obtain ⟨v2, ev2, h⟩ := bd h
    refine g_getI X (pc := 15) fk_11_7 rfl rfl ev2 tb_321 dX11_feed_15 ?_
    refine g_bipush X (pc := 18) (v := 20) dX11_feed_18 (by decide) ?_
    refine g_iadd X (pc := 20) dX11_feed_20 ?_
    refine g_aload_n X (pc := 21) 0 rfl rfl dX11_feed_21 ?_
    obtain ⟨v3, ev3, h⟩ := bd h
    refine g_getR X (pc := 22) fk_11_6 rfl rfl ev3 tb_320 dX11_feed_22 ?_
    obtain ⟨v4, ev4, h⟩ := bd h
    refine g_alen X (pc := 25) (k := 0) rfl (by decide) ev4 dX11_feed_25 ?_
    refine g_icmp_le X (pc := 26) (tgt := 55) dX11_feed_26 (by decide) (fun hc => ?_) (fun hc => ?_)
    · have h := (if_pos hc).symm.trans h
      exact wX11_feed_L55 X hE hn fu   a0 a1 a2 a3 a4 a5 M h
    · have h := (if_neg hc).symm.trans h
      refine g_aload_n X (pc := 29) 0 rfl rfl dX11_feed_29 ?_
      refine g_aload_n X (pc := 30) 0 rfl rfl dX11_feed_30 ?_
      obtain ⟨v5, ev5, h⟩ := bd h
      refine g_getR X (pc := 31) fk_11_6 rfl rfl ev5 tb_320 dX11_feed_31 ?_
      refine g_iconst X (pc := 34) (v := 2) dX11_feed_34 (by decide) ?_
      refine g_aload_n X (pc := 35) 0 rfl rfl dX11_feed_35 ?_
      obtain ⟨v6, ev6, h⟩ := bd h
      refine g_getR X (pc := 36) fk_11_6 rfl rfl ev6 tb_320 dX11_feed_36 ?_
      obtain ⟨v7, ev7, h⟩ := bd h
      refine g_alen X (pc := 39) (k := 0) rfl (by decide) ev7 dX11_feed_39 ?_
      refine g_imul X (pc := 40) dX11_feed_40 ?_
      refine g_bipush X (pc := 41) (v := 20) dX11_feed_41 (by decide) ?_
      refine g_iadd X (pc := 43) dX11_feed_43 ?_
      refine g_ldc X (pc := 44) tb_346 dX11_feed_44 ?_
      refine g_mmin X (pc := 46) tb_347 tb_348 tb_13 tb_349 ⟨by decide, Nat.le_of_ble_eq_true rfl⟩ dX11_feed_46 ?_
      obtain ⟨v9, M8, eM8, h⟩ := b2d h
      refine g_callS X (pc := 49) (M' := M8) (ro := some (pR v9)) (as := [pR v5, pI (jmin (((2 : Int32) * v7) + (20 : Int32)) (65540 : Int32))]) (as' := [pI (jmin (((2 : Int32) * v7) + (20 : Int32)) (65540 : Int32)), pR v5]) (st := [pR (some a0)]) (ctJ7_copyOf_9075b _ _ _ _ _ _ fu  v5 (jmin (((2 : Int32) * v7) + (20 : Int32)) (65540 : Int32)) M _ eM8) tb_352 tb_350 tb_351 tb_14 hyJ7_copyOf_9075b rfl rfl ⟨by decide, by decide⟩ (Nat.le_of_ble_eq_true rfl) dX11_feed_49 ?_
      obtain ⟨M10, eM10, h⟩ := bd h
      refine g_putG X (pc := 52) fk_11_6 rfl rfl rfl eM10 tb_320 (Or.inl rfl) dX11_feed_52 ?_
      exact wX11_feed_L55 X hE hn fu   a0 a1 a2 a3 a4 a5 M10 h
  · have h := (if_neg hc).symm.trans h
    refine g_iconst X (pc := 12) (v := (-1)) dX11_feed_12 (by decide) ?_
    obtain rfl := Option.some.inj h
    exact g_ireturn X hE dX11_feed_13
theorem hyX11_feed : yX11_feed.cls ≠ "java/lang/invoke/MethodHandle" ∧ yX11_feed.cls ≠ "java/lang/invoke/VarHandle" ∧ (parseMethodDescriptor yX11_feed.desc).map (fun d => d.parameters.length) = some 5 := ⟨by decide +kernel, by decide +kernel, by decide +kernel⟩
theorem ctX11_feed (l : Launch) (E : Nat → Nat) (D : va_G) (dA : Nat → ClassId) (lo : Nat) (H0 : Heap) (fu : Nat) (a0 : Nat) (a1 : Int32) (a2 : Int32) (a3 : Int32) (a4 : Int32) (a5 : Int32) (M : Mm) (out : Int32 × Mm) (h : fX11_feed fu a0 a1 a2 a3 a4 a5 M = some out) : Ct l E D dA lo H0 yX11_feed cX11_feed 6 (some .int) 2 62 [pR (some a0), pI a1, pI a2, pI a3, pI a4, pI a5] M (some (pI out.1)) out.2 := by
  refine ct_of (by decide +kernel) (Nat.le_of_ble_eq_true rfl) ?_
  intro x hl he hd ha ho hh hn hin X hE
  exact wX11_feed X hE hn fu a0 a1 a2 a3 a4 a5 M h
/-! WebHost.end(I)I -/
def fX11_end (fu : Nat)  (a0 : Nat) (a1 : Int32)  (M : Mm) : Option (Int32 × Mm) :=
    if a1 < 0 then (
    some ((-1 : Int32), M))
    else (
    (gI M 11 711 (some a0)).bind fun v1 =>
    if a1 ≤ v1 then (
    (pF M 11 711 (some a0) a1).bind fun M2 =>
    some (a1, M2))
    else (
    some ((-1 : Int32), M)))
theorem dX11_end_0 : decode cX11_end 0 = .ok (.iload_n 1, 1) := by decide +kernel
theorem dX11_end_1 : decode cX11_end 1 = .ok (.ifCond .lt 11, 3) := by decide +kernel
theorem dX11_end_4 : decode cX11_end 4 = .ok (.iload_n 1, 1) := by decide +kernel
theorem dX11_end_5 : decode cX11_end 5 = .ok (.aload_n 0, 1) := by decide +kernel
theorem dX11_end_6 : decode cX11_end 6 = .ok (.getfield 63, 3) := by decide +kernel
theorem dX11_end_9 : decode cX11_end 9 = .ok (.if_icmp .le 5, 3) := by decide +kernel
theorem dX11_end_12 : decode cX11_end 12 = .ok (.iconst (-1), 1) := by decide +kernel
theorem dX11_end_13 : decode cX11_end 13 = .ok (.ireturn, 1) := by decide +kernel
theorem dX11_end_14 : decode cX11_end 14 = .ok (.aload_n 0, 1) := by decide +kernel
theorem dX11_end_15 : decode cX11_end 15 = .ok (.iload_n 1, 1) := by decide +kernel
theorem dX11_end_16 : decode cX11_end 16 = .ok (.putfield 63, 3) := by decide +kernel
theorem dX11_end_19 : decode cX11_end 19 = .ok (.iload_n 1, 1) := by decide +kernel
theorem dX11_end_20 : decode cX11_end 20 = .ok (.ireturn, 1) := by decide +kernel
theorem wX11_end {x : GX} {n0 sl0 : Nat} (X : Cx x cX11_end RX11 (some .int) n0 sl0 0 0) {out : Int32 × Mm} (hE : Ends x n0 sl0 (some (pI out.1)) out.2) (hn : xn x = 2) (fu : Nat)   (a0 : Nat) (a1 : Int32)  (M : Mm) (h : fX11_end fu  a0 a1 M = some out) : Gw x M 0 [(0, pR (some a0)), (1, pI a1)] [] := by
  unfold fX11_end at h
  refine g_iload_n X (pc := 0) 1 rfl rfl dX11_end_0 ?_
  refine g_if_lt X (pc := 1) (tgt := 12) dX11_end_1 (by decide) (fun hc => ?_) (fun hc => ?_)
  · have h := (if_pos hc).symm.trans h
    refine g_iconst X (pc := 12) (v := (-1)) dX11_end_12 (by decide) ?_
    obtain rfl := Option.some.inj h
    exact g_ireturn X hE dX11_end_13
  · have h := (if_neg hc).symm.trans h
    refine g_iload_n X (pc := 4) 1 rfl rfl dX11_end_4 ?_
    refine g_aload_n X (pc := 5) 0 rfl rfl dX11_end_5 ?_
    obtain ⟨v1, ev1, h⟩ := bd h
    refine g_getI X (pc := 6) fk_11_7 rfl rfl ev1 tb_321 dX11_end_6 ?_
    refine g_icmp_le X (pc := 9) (tgt := 14) dX11_end_9 (by decide) (fun hc => ?_) (fun hc => ?_)
    · have h := (if_pos hc).symm.trans h
      refine g_aload_n X (pc := 14) 0 rfl rfl dX11_end_14 ?_
      refine g_iload_n X (pc := 15) 1 rfl rfl dX11_end_15 ?_
      obtain ⟨M2, eM2, h⟩ := bd h
      refine g_putI X (pc := 16) fk_11_7 rfl rfl rfl eM2 tb_321 (Or.inl rfl) dX11_end_16 ?_
      refine g_iload_n X (pc := 19) 1 rfl rfl dX11_end_19 ?_
      obtain rfl := Option.some.inj h
      exact g_ireturn X hE dX11_end_20
    · have h := (if_neg hc).symm.trans h
      refine g_iconst X (pc := 12) (v := (-1)) dX11_end_12 (by decide) ?_
      obtain rfl := Option.some.inj h
      exact g_ireturn X hE dX11_end_13
theorem hyX11_end : yX11_end.cls ≠ "java/lang/invoke/MethodHandle" ∧ yX11_end.cls ≠ "java/lang/invoke/VarHandle" ∧ (parseMethodDescriptor yX11_end.desc).map (fun d => d.parameters.length) = some 1 := ⟨by decide +kernel, by decide +kernel, by decide +kernel⟩
theorem ctX11_end (l : Launch) (E : Nat → Nat) (D : va_G) (dA : Nat → ClassId) (lo : Nat) (H0 : Heap) (fu : Nat) (a0 : Nat) (a1 : Int32) (M : Mm) (out : Int32 × Mm) (h : fX11_end fu a0 a1 M = some out) : Ct l E D dA lo H0 yX11_end cX11_end 2 (some .int) 0 0 [pR (some a0), pI a1] M (some (pI out.1)) out.2 := by
  refine ct_of (by decide +kernel) (Nat.le_of_ble_eq_true rfl) ?_
  intro x hl he hd ha ho hh hn hin X hE
  exact wX11_end X hE hn fu a0 a1 M h
/-! WebHost.install()I -/
def fX11_install (fu : Nat)  (a0 : Nat)  (M : Mm) : Option (Int32 × Mm) :=
    (gI M 11 711 (some a0)).bind fun v1 =>
    if v1 ≤ (65535 : Int32) then (
    (gI M 11 711 (some a0)).bind fun v2 =>
    (gR M 11 704 (some a0)).bind fun v3 =>
    (gR M 11 710 (some a0)).bind fun v4 =>
    (rc M 8 v3).bind fun q5 =>
    (fX8_keep fu q5 v4 v2 M).bind fun M6 =>
    (pF M6 11 711 (some a0) (0 : Int32)).bind fun M7 =>
    (pZ M7 11 712 (some a0) (0 : Int32)).bind fun M8 =>
    some (v2, M8))
    else (
    some ((-1 : Int32), M))
theorem dX11_install_0 : decode cX11_install 0 = .ok (.aload_n 0, 1) := by decide +kernel
theorem dX11_install_1 : decode cX11_install 1 = .ok (.getfield 63, 3) := by decide +kernel
theorem dX11_install_4 : decode cX11_install 4 = .ok (.ldc 84, 2) := by decide +kernel
theorem dX11_install_6 : decode cX11_install 6 = .ok (.if_icmp .le 5, 3) := by decide +kernel
theorem dX11_install_9 : decode cX11_install 9 = .ok (.iconst (-1), 1) := by decide +kernel
theorem dX11_install_10 : decode cX11_install 10 = .ok (.ireturn, 1) := by decide +kernel
theorem dX11_install_11 : decode cX11_install 11 = .ok (.aload_n 0, 1) := by decide +kernel
theorem dX11_install_12 : decode cX11_install 12 = .ok (.getfield 63, 3) := by decide +kernel
theorem dX11_install_15 : decode cX11_install 15 = .ok (.istore_n 1, 1) := by decide +kernel
theorem dX11_install_16 : decode cX11_install 16 = .ok (.aload_n 0, 1) := by decide +kernel
theorem dX11_install_17 : decode cX11_install 17 = .ok (.getfield 10, 3) := by decide +kernel
theorem dX11_install_20 : decode cX11_install 20 = .ok (.aload_n 0, 1) := by decide +kernel
theorem dX11_install_21 : decode cX11_install 21 = .ok (.getfield 59, 3) := by decide +kernel
theorem dX11_install_24 : decode cX11_install 24 = .ok (.iload_n 1, 1) := by decide +kernel
theorem dX11_install_25 : decode cX11_install 25 = .ok (.invokevirtual 85, 3) := by decide +kernel
theorem dX11_install_28 : decode cX11_install 28 = .ok (.aload_n 0, 1) := by decide +kernel
theorem dX11_install_29 : decode cX11_install 29 = .ok (.iconst 0, 1) := by decide +kernel
theorem dX11_install_30 : decode cX11_install 30 = .ok (.putfield 63, 3) := by decide +kernel
theorem dX11_install_33 : decode cX11_install 33 = .ok (.aload_n 0, 1) := by decide +kernel
theorem dX11_install_34 : decode cX11_install 34 = .ok (.iconst 0, 1) := by decide +kernel
theorem dX11_install_35 : decode cX11_install 35 = .ok (.putfield 89, 3) := by decide +kernel
theorem dX11_install_38 : decode cX11_install 38 = .ok (.iload_n 1, 1) := by decide +kernel
theorem dX11_install_39 : decode cX11_install 39 = .ok (.ireturn, 1) := by decide +kernel
theorem wX11_install {x : GX} {n0 sl0 : Nat} (X : Cx x cX11_install RX11 (some .int) n0 sl0 3 84) {out : Int32 × Mm} (hE : Ends x n0 sl0 (some (pI out.1)) out.2) (hn : xn x = 2) (fu : Nat)   (a0 : Nat)  (M : Mm) (h : fX11_install fu  a0 M = some out) : Gw x M 0 [(0, pR (some a0))] [] := by
  unfold fX11_install at h
  refine g_aload_n X (pc := 0) 0 rfl rfl dX11_install_0 ?_
  obtain ⟨v1, ev1, h⟩ := bd h
  refine g_getI X (pc := 1) fk_11_7 rfl rfl ev1 tb_321 dX11_install_1 ?_
  refine g_ldc X (pc := 4) tb_375 dX11_install_4 ?_
  refine g_icmp_le X (pc := 6) (tgt := 11) dX11_install_6 (by decide) (fun hc => ?_) (fun hc => ?_)
  · have h := (if_pos hc).symm.trans h
    refine g_aload_n X (pc := 11) 0 rfl rfl dX11_install_11 ?_
    obtain ⟨v2, ev2, h⟩ := bd h
    refine g_getI X (pc := 12) fk_11_7 rfl rfl ev2 tb_321 dX11_install_12 ?_
    refine g_istore_n X (pc := 15) [(1, pI v2), (0, pR (some a0))] rfl (lt_n hn (by decide)) rfl dX11_install_15 ?_
    refine g_aload_n X (pc := 16) 1 rfl rfl dX11_install_16 ?_
    obtain ⟨v3, ev3, h⟩ := bd h
    refine g_getR X (pc := 17) fk_11_0 rfl rfl ev3 tb_314 dX11_install_17 ?_
    refine g_aload_n X (pc := 20) 1 rfl rfl dX11_install_20 ?_
    obtain ⟨v4, ev4, h⟩ := bd h
    refine g_getR X (pc := 21) fk_11_6 rfl rfl ev4 tb_320 dX11_install_21 ?_
    refine g_iload_n X (pc := 24) 0 rfl rfl dX11_install_24 ?_
    obtain ⟨q5, eq5, h⟩ := bd h
    obtain ⟨M6, eM6, h⟩ := bd h
    refine g_callV X (pc := 25) (M' := M6) (ro := none) (c := 8) rfl (by decide) (as := [pR v4, pI v2]) (as' := [pI v2, pR v4]) (st := []) eq5 (ctX8_keep _ _ _ _ _ _ fu q5 v4 v2 M _ eM6) tb_379 tb_376 tb_377 tb_378 tb_2 ⟨rfl, hyX8_keep⟩ rfl rfl ⟨by decide, by decide⟩ (Nat.le_of_ble_eq_true rfl) dX11_install_25 ?_
    refine g_aload_n X (pc := 28) 1 rfl rfl dX11_install_28 ?_
    refine g_iconst X (pc := 29) (v := 0) dX11_install_29 (by decide) ?_
    obtain ⟨M7, eM7, h⟩ := bd h
    refine g_putI X (pc := 30) fk_11_7 rfl rfl rfl eM7 tb_321 (Or.inl rfl) dX11_install_30 ?_
    refine g_aload_n X (pc := 33) 1 rfl rfl dX11_install_33 ?_
    refine g_iconst X (pc := 34) (v := 0) dX11_install_34 (by decide) ?_
    obtain ⟨M8, eM8, h⟩ := bd h
    refine g_putZ X (pc := 35) fk_11_8 rfl rfl rfl eM8 tb_322 (Or.inl rfl) dX11_install_35 ?_
    refine g_iload_n X (pc := 38) 0 rfl rfl dX11_install_38 ?_
    obtain rfl := Option.some.inj h
    exact g_ireturn X hE dX11_install_39
  · have h := (if_neg hc).symm.trans h
    refine g_iconst X (pc := 9) (v := (-1)) dX11_install_9 (by decide) ?_
    obtain rfl := Option.some.inj h
    exact g_ireturn X hE dX11_install_10
theorem hyX11_install : yX11_install.cls ≠ "java/lang/invoke/MethodHandle" ∧ yX11_install.cls ≠ "java/lang/invoke/VarHandle" ∧ (parseMethodDescriptor yX11_install.desc).map (fun d => d.parameters.length) = some 0 := ⟨by decide +kernel, by decide +kernel, by decide +kernel⟩
theorem ctX11_install (l : Launch) (E : Nat → Nat) (D : va_G) (dA : Nat → ClassId) (lo : Nat) (H0 : Heap) (fu : Nat) (a0 : Nat) (M : Mm) (out : Int32 × Mm) (h : fX11_install fu a0 M = some out) : Ct l E D dA lo H0 yX11_install cX11_install 2 (some .int) 3 84 [pR (some a0)] M (some (pI out.1)) out.2 := by
  refine ct_of (by decide +kernel) (Nat.le_of_ble_eq_true rfl) ?_
  intro x hl he hd ha ho hh hn hin X hE
  exact wX11_install X hE hn fu a0 M h
/-! WebHost.boot(IIIII)I -/
def fX11_boot (fu : Nat)  (a0 : Nat) (a1 : Int32) (a2 : Int32) (a3 : Int32) (a4 : Int32) (a5 : Int32)  (M : Mm) : Option (Int32 × Mm) :=
    if a2 < (8 : Int32) then (
    some ((-1 : Int32), M))
    else (
    if (30 : Int32) < a2 then (
    some ((-1 : Int32), M))
    else (
    b2 (fX11_isHostNumber fu  a1 M) fun v2 M1 =>
    if v2 = 0 then (
    some ((-1 : Int32), M1))
    else (
    (some ((-1 : Int32) <<< (((32 : Int32) - a2) &&& 31))).bind fun v3 =>
    if ((a1 ^^^ a3) &&& v3) = 0 then (
    if a3 = a1 then (
    some ((-2 : Int32), M1))
    else (
    if (a4 &&& (256 : Int32)) = 0 then (
    (gR M1 11 704 (some a0)).bind fun v4 =>
    (rc M1 8 v4).bind fun q5 =>
    b2 (fX8_isRight fu q5  M1) fun v7 M6 =>
    if v7 = 0 then (
    some ((-3 : Int32), M6))
    else (
    (gR M6 11 704 (some a0)).bind fun v8 =>
    (rc M6 8 v8).bind fun q9 =>
    (fX8_keepEntries fu q9  M6).bind fun M10 =>
    (gR M10 11 705 (some a0)).bind fun v11 =>
    (rc M10 10 v11).bind fun q12 =>
    (fX10_restart fu q12  M10).bind fun M13 =>
    (gR M13 11 706 (some a0)).bind fun v14 =>
    (rc M13 4 v14).bind fun q15 =>
    (fX4_restart fu q15 a1 v3 a3 (a4 &&& (65535 : Int32)) a5 M13).bind fun M16 =>
    (gR M16 11 707 (some a0)).bind fun v17 =>
    (rc M16 3 v17).bind fun q18 =>
    (fX3_restart fu q18  M16).bind fun M19 =>
    (gR M19 11 708 (some a0)).bind fun v20 =>
    (rc M19 9 v20).bind fun q21 =>
    (fX9_restart fu q21  M19).bind fun M22 =>
    (pZ M22 11 712 (some a0) (1 : Int32)).bind fun M23 =>
    (gR M23 11 704 (some a0)).bind fun v24 =>
    (gI M23 8 513 v24).bind fun v25 =>
    some (v25, M23)))
    else (
    some ((-2 : Int32), M1))))
    else (
    some ((-2 : Int32), M1)))))
theorem dX11_boot_0 : decode cX11_boot 0 = .ok (.iload_n 2, 1) := by decide +kernel
theorem dX11_boot_1 : decode cX11_boot 1 = .ok (.bipush 8, 2) := by decide +kernel
theorem dX11_boot_3 : decode cX11_boot 3 = .ok (.if_icmp .lt 16, 3) := by decide +kernel
theorem dX11_boot_6 : decode cX11_boot 6 = .ok (.iload_n 2, 1) := by decide +kernel
theorem dX11_boot_7 : decode cX11_boot 7 = .ok (.bipush 30, 2) := by decide +kernel
theorem dX11_boot_9 : decode cX11_boot 9 = .ok (.if_icmp .gt 10, 3) := by decide +kernel
theorem dX11_boot_12 : decode cX11_boot 12 = .ok (.iload_n 1, 1) := by decide +kernel
theorem dX11_boot_13 : decode cX11_boot 13 = .ok (.invokestatic 93, 3) := by decide +kernel
theorem dX11_boot_16 : decode cX11_boot 16 = .ok (.ifCond .ne 5, 3) := by decide +kernel
theorem dX11_boot_19 : decode cX11_boot 19 = .ok (.iconst (-1), 1) := by decide +kernel
theorem dX11_boot_20 : decode cX11_boot 20 = .ok (.ireturn, 1) := by decide +kernel
theorem dX11_boot_21 : decode cX11_boot 21 = .ok (.iconst (-1), 1) := by decide +kernel
theorem dX11_boot_22 : decode cX11_boot 22 = .ok (.bipush 32, 2) := by decide +kernel
theorem dX11_boot_24 : decode cX11_boot 24 = .ok (.iload_n 2, 1) := by decide +kernel
theorem dX11_boot_25 : decode cX11_boot 25 = .ok (.isub, 1) := by decide +kernel
theorem dX11_boot_26 : decode cX11_boot 26 = .ok (.ishl, 1) := by decide +kernel
theorem dX11_boot_27 : decode cX11_boot 27 = .ok (.istore 6, 2) := by decide +kernel
theorem dX11_boot_29 : decode cX11_boot 29 = .ok (.iload_n 1, 1) := by decide +kernel
theorem dX11_boot_30 : decode cX11_boot 30 = .ok (.iload_n 3, 1) := by decide +kernel
theorem dX11_boot_31 : decode cX11_boot 31 = .ok (.ixor, 1) := by decide +kernel
theorem dX11_boot_32 : decode cX11_boot 32 = .ok (.iload 6, 2) := by decide +kernel
theorem dX11_boot_34 : decode cX11_boot 34 = .ok (.iand, 1) := by decide +kernel
theorem dX11_boot_35 : decode cX11_boot 35 = .ok (.ifCond .ne 17, 3) := by decide +kernel
theorem dX11_boot_38 : decode cX11_boot 38 = .ok (.iload_n 3, 1) := by decide +kernel
theorem dX11_boot_39 : decode cX11_boot 39 = .ok (.iload_n 1, 1) := by decide +kernel
theorem dX11_boot_40 : decode cX11_boot 40 = .ok (.if_icmp .eq 12, 3) := by decide +kernel
theorem dX11_boot_43 : decode cX11_boot 43 = .ok (.iload 4, 2) := by decide +kernel
theorem dX11_boot_45 : decode cX11_boot 45 = .ok (.sipush 256, 3) := by decide +kernel
theorem dX11_boot_48 : decode cX11_boot 48 = .ok (.iand, 1) := by decide +kernel
theorem dX11_boot_49 : decode cX11_boot 49 = .ok (.ifCond .eq 6, 3) := by decide +kernel
theorem dX11_boot_52 : decode cX11_boot 52 = .ok (.bipush (-2), 2) := by decide +kernel
theorem dX11_boot_54 : decode cX11_boot 54 = .ok (.ireturn, 1) := by decide +kernel
theorem dX11_boot_55 : decode cX11_boot 55 = .ok (.aload_n 0, 1) := by decide +kernel
theorem dX11_boot_56 : decode cX11_boot 56 = .ok (.getfield 10, 3) := by decide +kernel
theorem dX11_boot_59 : decode cX11_boot 59 = .ok (.invokevirtual 97, 3) := by decide +kernel
theorem dX11_boot_62 : decode cX11_boot 62 = .ok (.ifCond .ne 6, 3) := by decide +kernel
theorem dX11_boot_65 : decode cX11_boot 65 = .ok (.bipush (-3), 2) := by decide +kernel
theorem dX11_boot_67 : decode cX11_boot 67 = .ok (.ireturn, 1) := by decide +kernel
theorem dX11_boot_68 : decode cX11_boot 68 = .ok (.aload_n 0, 1) := by decide +kernel
theorem dX11_boot_69 : decode cX11_boot 69 = .ok (.getfield 10, 3) := by decide +kernel
theorem dX11_boot_72 : decode cX11_boot 72 = .ok (.invokevirtual 101, 3) := by decide +kernel
theorem dX11_boot_75 : decode cX11_boot 75 = .ok (.aload_n 0, 1) := by decide +kernel
theorem dX11_boot_76 : decode cX11_boot 76 = .ok (.getfield 19, 3) := by decide +kernel
theorem dX11_boot_79 : decode cX11_boot 79 = .ok (.invokevirtual 104, 3) := by decide +kernel
theorem dX11_boot_82 : decode cX11_boot 82 = .ok (.aload_n 0, 1) := by decide +kernel
theorem dX11_boot_83 : decode cX11_boot 83 = .ok (.getfield 28, 3) := by decide +kernel
theorem dX11_boot_86 : decode cX11_boot 86 = .ok (.iload_n 1, 1) := by decide +kernel
theorem dX11_boot_87 : decode cX11_boot 87 = .ok (.iload 6, 2) := by decide +kernel
theorem dX11_boot_89 : decode cX11_boot 89 = .ok (.iload_n 3, 1) := by decide +kernel
theorem dX11_boot_90 : decode cX11_boot 90 = .ok (.iload 4, 2) := by decide +kernel
theorem dX11_boot_92 : decode cX11_boot 92 = .ok (.ldc 84, 2) := by decide +kernel
theorem dX11_boot_94 : decode cX11_boot 94 = .ok (.iand, 1) := by decide +kernel
theorem dX11_boot_95 : decode cX11_boot 95 = .ok (.iload 5, 2) := by decide +kernel
theorem dX11_boot_97 : decode cX11_boot 97 = .ok (.invokevirtual 107, 3) := by decide +kernel
theorem dX11_boot_100 : decode cX11_boot 100 = .ok (.aload_n 0, 1) := by decide +kernel
theorem dX11_boot_101 : decode cX11_boot 101 = .ok (.getfield 37, 3) := by decide +kernel
theorem dX11_boot_104 : decode cX11_boot 104 = .ok (.invokevirtual 110, 3) := by decide +kernel
theorem dX11_boot_107 : decode cX11_boot 107 = .ok (.aload_n 0, 1) := by decide +kernel
theorem dX11_boot_108 : decode cX11_boot 108 = .ok (.getfield 46, 3) := by decide +kernel
theorem dX11_boot_111 : decode cX11_boot 111 = .ok (.invokevirtual 111, 3) := by decide +kernel
theorem dX11_boot_114 : decode cX11_boot 114 = .ok (.aload_n 0, 1) := by decide +kernel
theorem dX11_boot_115 : decode cX11_boot 115 = .ok (.iconst 1, 1) := by decide +kernel
theorem dX11_boot_116 : decode cX11_boot 116 = .ok (.putfield 89, 3) := by decide +kernel
theorem dX11_boot_119 : decode cX11_boot 119 = .ok (.aload_n 0, 1) := by decide +kernel
theorem dX11_boot_120 : decode cX11_boot 120 = .ok (.getfield 10, 3) := by decide +kernel
theorem dX11_boot_123 : decode cX11_boot 123 = .ok (.getfield 112, 3) := by decide +kernel
theorem dX11_boot_126 : decode cX11_boot 126 = .ok (.ireturn, 1) := by decide +kernel
theorem wX11_boot {x : GX} {n0 sl0 : Nat} (X : Cx x cX11_boot RX11 (some .int) n0 sl0 3 70) {out : Int32 × Mm} (hE : Ends x n0 sl0 (some (pI out.1)) out.2) (hn : xn x = 7) (fu : Nat)   (a0 : Nat) (a1 : Int32) (a2 : Int32) (a3 : Int32) (a4 : Int32) (a5 : Int32)  (M : Mm) (h : fX11_boot fu  a0 a1 a2 a3 a4 a5 M = some out) : Gw x M 0 [(0, pR (some a0)), (1, pI a1), (2, pI a2), (3, pI a3), (4, pI a4), (5, pI a5)] [] := by
  unfold fX11_boot at h
  refine g_iload_n X (pc := 0) 2 rfl rfl dX11_boot_0 ?_
  refine g_bipush X (pc := 1) (v := 8) dX11_boot_1 (by decide) ?_
  refine g_icmp_lt X (pc := 3) (tgt := 19) dX11_boot_3 (by decide) (fun hc => ?_) (fun hc => ?_)
  · have h := (if_pos hc).symm.trans h
    refine g_iconst X (pc := 19) (v := (-1)) dX11_boot_19 (by decide) ?_
    obtain rfl := Option.some.inj h
    exact g_ireturn X hE dX11_boot_20
  · have h := (if_neg hc).symm.trans h
    refine g_iload_n X (pc := 6) 2 rfl rfl dX11_boot_6 ?_
    refine g_bipush X (pc := 7) (v := 30) dX11_boot_7 (by decide) ?_
    refine g_icmp_gt X (pc := 9) (tgt := 19) dX11_boot_9 (by decide) (fun hc => ?_) (fun hc => ?_)
    · have h := (if_pos hc).symm.trans h
      refine g_iconst X (pc := 19) (v := (-1)) dX11_boot_19 (by decide) ?_
      obtain rfl := Option.some.inj h
      exact g_ireturn X hE dX11_boot_20
    · have h := (if_neg hc).symm.trans h
      refine g_iload_n X (pc := 12) 1 rfl rfl dX11_boot_12 ?_
      obtain ⟨v2, M1, eM1, h⟩ := b2d h
      refine g_callS X (pc := 13) (M' := M1) (ro := some (pI v2)) (as := [pI a1]) (as' := [pI a1]) (st := []) (ctX11_isHostNumber _ _ _ _ _ _ fu  a1 M _ eM1) tb_387 tb_385 tb_386 tb_1 hyX11_isHostNumber rfl rfl ⟨by decide, by decide⟩ (Nat.le_of_ble_eq_true rfl) dX11_boot_13 ?_
      refine g_if_ne X (pc := 16) (tgt := 21) dX11_boot_16 (by decide) (fun hc => ?_) (fun hc => ?_)
      · have h := (if_neg hc).symm.trans h
        refine g_iconst X (pc := 21) (v := (-1)) dX11_boot_21 (by decide) ?_
        refine g_bipush X (pc := 22) (v := 32) dX11_boot_22 (by decide) ?_
        refine g_iload_n X (pc := 24) 2 rfl rfl dX11_boot_24 ?_
        refine g_isub X (pc := 25) dX11_boot_25 ?_
        refine g_ishl X (pc := 26) dX11_boot_26 ?_
        obtain ⟨v3, ev3, h⟩ := bd h
        refine g_nmI ev3 ?_
        refine g_istore X (pc := 27) [(6, pI v3), (0, pR (some a0)), (1, pI a1), (2, pI a2), (3, pI a3), (4, pI a4), (5, pI a5)] (lt_n hn (by decide)) rfl dX11_boot_27 ?_
        refine g_iload_n X (pc := 29) 2 rfl rfl dX11_boot_29 ?_
        refine g_iload_n X (pc := 30) 4 rfl rfl dX11_boot_30 ?_
        refine g_ixor X (pc := 31) dX11_boot_31 ?_
        refine g_iload X (pc := 32) 0 rfl dX11_boot_32 ?_
        refine g_iand X (pc := 34) dX11_boot_34 ?_
        refine g_if_ne X (pc := 35) (tgt := 52) dX11_boot_35 (by decide) (fun hc => ?_) (fun hc => ?_)
        · have h := (if_neg hc).symm.trans h
          refine g_bipush X (pc := 52) (v := (-2)) dX11_boot_52 (by decide) ?_
          obtain rfl := Option.some.inj h
          exact g_ireturn X hE dX11_boot_54
        · have h := (if_pos hc).symm.trans h
          refine g_iload_n X (pc := 38) 4 rfl rfl dX11_boot_38 ?_
          refine g_iload_n X (pc := 39) 2 rfl rfl dX11_boot_39 ?_
          refine g_icmp_eq X (pc := 40) (tgt := 52) dX11_boot_40 (by decide) (fun hc => ?_) (fun hc => ?_)
          · have h := (if_pos hc).symm.trans h
            refine g_bipush X (pc := 52) (v := (-2)) dX11_boot_52 (by decide) ?_
            obtain rfl := Option.some.inj h
            exact g_ireturn X hE dX11_boot_54
          · have h := (if_neg hc).symm.trans h
            refine g_iload X (pc := 43) 5 rfl dX11_boot_43 ?_
            refine g_sipush X (pc := 45) (v := 256) dX11_boot_45 (by decide) ?_
            refine g_iand X (pc := 48) dX11_boot_48 ?_
            refine g_if_eq X (pc := 49) (tgt := 55) dX11_boot_49 (by decide) (fun hc => ?_) (fun hc => ?_)
            · have h := (if_pos hc).symm.trans h
              refine g_aload_n X (pc := 55) 1 rfl rfl dX11_boot_55 ?_
              obtain ⟨v4, ev4, h⟩ := bd h
              refine g_getR X (pc := 56) fk_11_0 rfl rfl ev4 tb_314 dX11_boot_56 ?_
              obtain ⟨q5, eq5, h⟩ := bd h
              obtain ⟨v7, M6, eM6, h⟩ := b2d h
              refine g_callV X (pc := 59) (M' := M6) (ro := some (pI v7)) (c := 8) rfl (by decide) (as := []) (as' := []) (st := []) eq5 (ctX8_isRight _ _ _ _ _ _ fu q5  M1 _ eM6) tb_391 tb_388 tb_389 tb_390 tb_2 ⟨rfl, hyX8_isRight⟩ rfl rfl ⟨by decide, by decide⟩ (Nat.le_of_ble_eq_true rfl) dX11_boot_59 ?_
              refine g_if_ne X (pc := 62) (tgt := 68) dX11_boot_62 (by decide) (fun hc => ?_) (fun hc => ?_)
              · have h := (if_neg hc).symm.trans h
                refine g_aload_n X (pc := 68) 1 rfl rfl dX11_boot_68 ?_
                obtain ⟨v8, ev8, h⟩ := bd h
                refine g_getR X (pc := 69) fk_11_0 rfl rfl ev8 tb_314 dX11_boot_69 ?_
                obtain ⟨q9, eq9, h⟩ := bd h
                obtain ⟨M10, eM10, h⟩ := bd h
                refine g_callV X (pc := 72) (M' := M10) (ro := none) (c := 8) rfl (by decide) (as := []) (as' := []) (st := []) eq9 (ctX8_keepEntries _ _ _ _ _ _ fu q9  M6 _ eM10) tb_428 tb_425 tb_426 tb_427 tb_2 ⟨rfl, hyX8_keepEntries⟩ rfl rfl ⟨by decide, by decide⟩ (Nat.le_of_ble_eq_true rfl) dX11_boot_72 ?_
                refine g_aload_n X (pc := 75) 1 rfl rfl dX11_boot_75 ?_
                obtain ⟨v11, ev11, h⟩ := bd h
                refine g_getR X (pc := 76) fk_11_1 rfl rfl ev11 tb_315 dX11_boot_76 ?_
                obtain ⟨q12, eq12, h⟩ := bd h
                obtain ⟨M13, eM13, h⟩ := bd h
                refine g_callV X (pc := 79) (M' := M13) (ro := none) (c := 10) rfl (by decide) (as := []) (as' := []) (st := []) eq12 (ctX10_restart _ _ _ _ _ _ fu q12  M10 _ eM13) tb_433 tb_430 tb_431 tb_432 tb_3 ⟨rfl, hyX10_restart⟩ rfl rfl ⟨by decide, by decide⟩ (Nat.le_of_ble_eq_true rfl) dX11_boot_79 ?_
                refine g_aload_n X (pc := 82) 1 rfl rfl dX11_boot_82 ?_
                obtain ⟨v14, ev14, h⟩ := bd h
                refine g_getR X (pc := 83) fk_11_2 rfl rfl ev14 tb_316 dX11_boot_83 ?_
                refine g_iload_n X (pc := 86) 2 rfl rfl dX11_boot_86 ?_
                refine g_iload X (pc := 87) 0 rfl dX11_boot_87 ?_
                refine g_iload_n X (pc := 89) 4 rfl rfl dX11_boot_89 ?_
                refine g_iload X (pc := 90) 5 rfl dX11_boot_90 ?_
                refine g_ldc X (pc := 92) tb_375 dX11_boot_92 ?_
                refine g_iand X (pc := 94) dX11_boot_94 ?_
                refine g_iload X (pc := 95) 6 rfl dX11_boot_95 ?_
                obtain ⟨q15, eq15, h⟩ := bd h
                obtain ⟨M16, eM16, h⟩ := bd h
                refine g_callV X (pc := 97) (M' := M16) (ro := none) (c := 4) rfl (by decide) (as := [pI a1, pI v3, pI a3, pI (a4 &&& (65535 : Int32)), pI a5]) (as' := [pI a5, pI (a4 &&& (65535 : Int32)), pI a3, pI v3, pI a1]) (st := []) eq15 (ctX4_restart _ _ _ _ _ _ fu q15 a1 v3 a3 (a4 &&& (65535 : Int32)) a5 M13 _ eM16) tb_440 tb_437 tb_438 tb_439 tb_4 ⟨rfl, hyX4_restart⟩ rfl rfl ⟨by decide, by decide⟩ (Nat.le_of_ble_eq_true rfl) dX11_boot_97 ?_
                refine g_aload_n X (pc := 100) 1 rfl rfl dX11_boot_100 ?_
                obtain ⟨v17, ev17, h⟩ := bd h
                refine g_getR X (pc := 101) fk_11_3 rfl rfl ev17 tb_317 dX11_boot_101 ?_
                obtain ⟨q18, eq18, h⟩ := bd h
                obtain ⟨M19, eM19, h⟩ := bd h
                refine g_callV X (pc := 104) (M' := M19) (ro := none) (c := 3) rfl (by decide) (as := []) (as' := []) (st := []) eq18 (ctX3_restart _ _ _ _ _ _ fu q18  M16 _ eM19) tb_444 tb_441 tb_442 tb_443 tb_5 ⟨rfl, hyX3_restart⟩ rfl rfl ⟨by decide, by decide⟩ (Nat.le_of_ble_eq_true rfl) dX11_boot_104 ?_
                refine g_aload_n X (pc := 107) 1 rfl rfl dX11_boot_107 ?_
                obtain ⟨v20, ev20, h⟩ := bd h
                refine g_getR X (pc := 108) fk_11_4 rfl rfl ev20 tb_318 dX11_boot_108 ?_
                obtain ⟨q21, eq21, h⟩ := bd h
                obtain ⟨M22, eM22, h⟩ := bd h
                refine g_callV X (pc := 111) (M' := M22) (ro := none) (c := 9) rfl (by decide) (as := []) (as' := []) (st := []) eq21 (ctX9_restart _ _ _ _ _ _ fu q21  M19 _ eM22) tb_448 tb_445 tb_446 tb_447 tb_6 ⟨rfl, hyX9_restart⟩ rfl rfl ⟨by decide, by decide⟩ (Nat.le_of_ble_eq_true rfl) dX11_boot_111 ?_
                refine g_aload_n X (pc := 114) 1 rfl rfl dX11_boot_114 ?_
                refine g_iconst X (pc := 115) (v := 1) dX11_boot_115 (by decide) ?_
                obtain ⟨M23, eM23, h⟩ := bd h
                refine g_putZ X (pc := 116) fk_11_8 rfl rfl rfl eM23 tb_322 (Or.inl rfl) dX11_boot_116 ?_
                refine g_aload_n X (pc := 119) 1 rfl rfl dX11_boot_119 ?_
                obtain ⟨v24, ev24, h⟩ := bd h
                refine g_getR X (pc := 120) fk_11_0 rfl rfl ev24 tb_314 dX11_boot_120 ?_
                obtain ⟨v25, ev25, h⟩ := bd h
                refine g_getI X (pc := 123) fk_8_1 rfl rfl ev25 tb_43 dX11_boot_123 ?_
                obtain rfl := Option.some.inj h
                exact g_ireturn X hE dX11_boot_126
              · have h := (if_pos hc).symm.trans h
                refine g_bipush X (pc := 65) (v := (-3)) dX11_boot_65 (by decide) ?_
                obtain rfl := Option.some.inj h
                exact g_ireturn X hE dX11_boot_67
            · have h := (if_neg hc).symm.trans h
              refine g_bipush X (pc := 52) (v := (-2)) dX11_boot_52 (by decide) ?_
              obtain rfl := Option.some.inj h
              exact g_ireturn X hE dX11_boot_54
      · have h := (if_pos hc).symm.trans h
        refine g_iconst X (pc := 19) (v := (-1)) dX11_boot_19 (by decide) ?_
        obtain rfl := Option.some.inj h
        exact g_ireturn X hE dX11_boot_20
theorem hyX11_boot : yX11_boot.cls ≠ "java/lang/invoke/MethodHandle" ∧ yX11_boot.cls ≠ "java/lang/invoke/VarHandle" ∧ (parseMethodDescriptor yX11_boot.desc).map (fun d => d.parameters.length) = some 5 := ⟨by decide +kernel, by decide +kernel, by decide +kernel⟩
theorem ctX11_boot (l : Launch) (E : Nat → Nat) (D : va_G) (dA : Nat → ClassId) (lo : Nat) (H0 : Heap) (fu : Nat) (a0 : Nat) (a1 : Int32) (a2 : Int32) (a3 : Int32) (a4 : Int32) (a5 : Int32) (M : Mm) (out : Int32 × Mm) (h : fX11_boot fu a0 a1 a2 a3 a4 a5 M = some out) : Ct l E D dA lo H0 yX11_boot cX11_boot 7 (some .int) 3 70 [pR (some a0), pI a1, pI a2, pI a3, pI a4, pI a5] M (some (pI out.1)) out.2 := by
  refine ct_of (by decide +kernel) (Nat.le_of_ble_eq_true rfl) ?_
  intro x hl he hd ha ho hh hn hin X hE
  exact wX11_boot X hE hn fu a0 a1 a2 a3 a4 a5 M h
/-! WebHost.refusal(I)I -/
def fX11_refusal (fu : Nat)  (a0 : Nat) (a1 : Int32)  (M : Mm) : Option (Int32 × Mm) :=
    (gI M 11 712 (some a0)).bind fun v1 =>
    if v1 = 0 then (
    some ((-1 : Int32), M))
    else (
    (gR M 11 705 (some a0)).bind fun v2 =>
    (gI M 10 641 v2).bind fun v3 =>
    if a1 < v3 then (
    some ((-2 : Int32), M))
    else (
    if (2000000000 : Int32) < a1 then (
    some ((-2 : Int32), M))
    else (
    (gR M 11 705 (some a0)).bind fun v4 =>
    (gI M 10 641 v4).bind fun v5 =>
    if (a1 - v5) ≤ (600000 : Int32) then (
    some ((0 : Int32), M))
    else (
    some ((-2 : Int32), M)))))
theorem dX11_refusal_0 : decode cX11_refusal 0 = .ok (.aload_n 0, 1) := by decide +kernel
theorem dX11_refusal_1 : decode cX11_refusal 1 = .ok (.getfield 89, 3) := by decide +kernel
theorem dX11_refusal_4 : decode cX11_refusal 4 = .ok (.ifCond .ne 5, 3) := by decide +kernel
theorem dX11_refusal_7 : decode cX11_refusal 7 = .ok (.iconst (-1), 1) := by decide +kernel
theorem dX11_refusal_8 : decode cX11_refusal 8 = .ok (.ireturn, 1) := by decide +kernel
theorem dX11_refusal_9 : decode cX11_refusal 9 = .ok (.iload_n 1, 1) := by decide +kernel
theorem dX11_refusal_10 : decode cX11_refusal 10 = .ok (.aload_n 0, 1) := by decide +kernel
theorem dX11_refusal_11 : decode cX11_refusal 11 = .ok (.getfield 19, 3) := by decide +kernel
theorem dX11_refusal_14 : decode cX11_refusal 14 = .ok (.getfield 154, 3) := by decide +kernel
theorem dX11_refusal_17 : decode cX11_refusal 17 = .ok (.if_icmp .lt 23, 3) := by decide +kernel
theorem dX11_refusal_20 : decode cX11_refusal 20 = .ok (.iload_n 1, 1) := by decide +kernel
theorem dX11_refusal_21 : decode cX11_refusal 21 = .ok (.ldc 203, 2) := by decide +kernel
theorem dX11_refusal_23 : decode cX11_refusal 23 = .ok (.if_icmp .gt 17, 3) := by decide +kernel
theorem dX11_refusal_26 : decode cX11_refusal 26 = .ok (.iload_n 1, 1) := by decide +kernel
theorem dX11_refusal_27 : decode cX11_refusal 27 = .ok (.aload_n 0, 1) := by decide +kernel
theorem dX11_refusal_28 : decode cX11_refusal 28 = .ok (.getfield 19, 3) := by decide +kernel
theorem dX11_refusal_31 : decode cX11_refusal 31 = .ok (.getfield 154, 3) := by decide +kernel
theorem dX11_refusal_34 : decode cX11_refusal 34 = .ok (.isub, 1) := by decide +kernel
theorem dX11_refusal_35 : decode cX11_refusal 35 = .ok (.ldc 204, 2) := by decide +kernel
theorem dX11_refusal_37 : decode cX11_refusal 37 = .ok (.if_icmp .le 6, 3) := by decide +kernel
theorem dX11_refusal_40 : decode cX11_refusal 40 = .ok (.bipush (-2), 2) := by decide +kernel
theorem dX11_refusal_42 : decode cX11_refusal 42 = .ok (.ireturn, 1) := by decide +kernel
theorem dX11_refusal_43 : decode cX11_refusal 43 = .ok (.iconst 0, 1) := by decide +kernel
theorem dX11_refusal_44 : decode cX11_refusal 44 = .ok (.ireturn, 1) := by decide +kernel
theorem wX11_refusal {x : GX} {n0 sl0 : Nat} (X : Cx x cX11_refusal RX11 (some .int) n0 sl0 0 0) {out : Int32 × Mm} (hE : Ends x n0 sl0 (some (pI out.1)) out.2) (hn : xn x = 2) (fu : Nat)   (a0 : Nat) (a1 : Int32)  (M : Mm) (h : fX11_refusal fu  a0 a1 M = some out) : Gw x M 0 [(0, pR (some a0)), (1, pI a1)] [] := by
  unfold fX11_refusal at h
  refine g_aload_n X (pc := 0) 0 rfl rfl dX11_refusal_0 ?_
  obtain ⟨v1, ev1, h⟩ := bd h
  refine g_getI X (pc := 1) fk_11_8 rfl rfl ev1 tb_322 dX11_refusal_1 ?_
  refine g_if_ne X (pc := 4) (tgt := 9) dX11_refusal_4 (by decide) (fun hc => ?_) (fun hc => ?_)
  · have h := (if_neg hc).symm.trans h
    refine g_iload_n X (pc := 9) 1 rfl rfl dX11_refusal_9 ?_
    refine g_aload_n X (pc := 10) 0 rfl rfl dX11_refusal_10 ?_
    obtain ⟨v2, ev2, h⟩ := bd h
    refine g_getR X (pc := 11) fk_11_1 rfl rfl ev2 tb_315 dX11_refusal_11 ?_
    obtain ⟨v3, ev3, h⟩ := bd h
    refine g_getI X (pc := 14) fk_10_1 rfl rfl ev3 tb_70 dX11_refusal_14 ?_
    refine g_icmp_lt X (pc := 17) (tgt := 40) dX11_refusal_17 (by decide) (fun hc => ?_) (fun hc => ?_)
    · have h := (if_pos hc).symm.trans h
      refine g_bipush X (pc := 40) (v := (-2)) dX11_refusal_40 (by decide) ?_
      obtain rfl := Option.some.inj h
      exact g_ireturn X hE dX11_refusal_42
    · have h := (if_neg hc).symm.trans h
      refine g_iload_n X (pc := 20) 1 rfl rfl dX11_refusal_20 ?_
      refine g_ldc X (pc := 21) tb_462 dX11_refusal_21 ?_
      refine g_icmp_gt X (pc := 23) (tgt := 40) dX11_refusal_23 (by decide) (fun hc => ?_) (fun hc => ?_)
      · have h := (if_pos hc).symm.trans h
        refine g_bipush X (pc := 40) (v := (-2)) dX11_refusal_40 (by decide) ?_
        obtain rfl := Option.some.inj h
        exact g_ireturn X hE dX11_refusal_42
      · have h := (if_neg hc).symm.trans h
        refine g_iload_n X (pc := 26) 1 rfl rfl dX11_refusal_26 ?_
        refine g_aload_n X (pc := 27) 0 rfl rfl dX11_refusal_27 ?_
        obtain ⟨v4, ev4, h⟩ := bd h
        refine g_getR X (pc := 28) fk_11_1 rfl rfl ev4 tb_315 dX11_refusal_28 ?_
        obtain ⟨v5, ev5, h⟩ := bd h
        refine g_getI X (pc := 31) fk_10_1 rfl rfl ev5 tb_70 dX11_refusal_31 ?_
        refine g_isub X (pc := 34) dX11_refusal_34 ?_
        refine g_ldc X (pc := 35) tb_463 dX11_refusal_35 ?_
        refine g_icmp_le X (pc := 37) (tgt := 43) dX11_refusal_37 (by decide) (fun hc => ?_) (fun hc => ?_)
        · have h := (if_pos hc).symm.trans h
          refine g_iconst X (pc := 43) (v := 0) dX11_refusal_43 (by decide) ?_
          obtain rfl := Option.some.inj h
          exact g_ireturn X hE dX11_refusal_44
        · have h := (if_neg hc).symm.trans h
          refine g_bipush X (pc := 40) (v := (-2)) dX11_refusal_40 (by decide) ?_
          obtain rfl := Option.some.inj h
          exact g_ireturn X hE dX11_refusal_42
  · have h := (if_pos hc).symm.trans h
    refine g_iconst X (pc := 7) (v := (-1)) dX11_refusal_7 (by decide) ?_
    obtain rfl := Option.some.inj h
    exact g_ireturn X hE dX11_refusal_8
theorem hyX11_refusal : yX11_refusal.cls ≠ "java/lang/invoke/MethodHandle" ∧ yX11_refusal.cls ≠ "java/lang/invoke/VarHandle" ∧ (parseMethodDescriptor yX11_refusal.desc).map (fun d => d.parameters.length) = some 1 := ⟨by decide +kernel, by decide +kernel, by decide +kernel⟩
theorem ctX11_refusal (l : Launch) (E : Nat → Nat) (D : va_G) (dA : Nat → ClassId) (lo : Nat) (H0 : Heap) (fu : Nat) (a0 : Nat) (a1 : Int32) (M : Mm) (out : Int32 × Mm) (h : fX11_refusal fu a0 a1 M = some out) : Ct l E D dA lo H0 yX11_refusal cX11_refusal 2 (some .int) 0 0 [pR (some a0), pI a1] M (some (pI out.1)) out.2 := by
  refine ct_of (by decide +kernel) (Nat.le_of_ble_eq_true rfl) ?_
  intro x hl he hd ha ho hh hn hin X hE
  exact wX11_refusal X hE hn fu a0 a1 M h
/-! WebHost.goOn(I)V -/
def fX11_goOn_L133 (fu : Nat) (k2 : Nat → Int32 → Int32 → Mm → Option (Mm)) (a0 : Nat) (a1 : Int32) (a2 : Int32)  (M : Mm) : Option (Mm) :=
    k2 a0 a1 (a2 + (1 : Int32)) M
def fX11_goOn_L2 (fu : Nat)  : Nat → Nat → Int32 → Int32 → Mm → Option (Mm)
  | 0, _, _, _, _ => none
  | n + 1, a0, a1, a2, M =>
    if (1000000 : Int32) ≤ a2 then (
    (gR M 11 705 (some a0)).bind fun v1 =>
    (pF M 10 641 v1 a1).bind fun M2 =>
    some M2)
    else (
    (gR M 11 706 (some a0)).bind fun v3 =>
    (rc M 4 v3).bind fun q4 =>
    b2 (fX4_earliest fu q4  M) fun v6 M5 =>
    (gR M5 11 707 (some a0)).bind fun v7 =>
    (rc M5 3 v7).bind fun q8 =>
    b2 (fX3_earliest fu q8  M5) fun v10 M9 =>
    (gR M9 11 708 (some a0)).bind fun v11 =>
    (rc M9 9 v11).bind fun q12 =>
    b2 (fX9_earliest fu q12  M9) fun v14 M13 =>
    if (jmin v6 (jmin v10 v14)) ≤ a1 then (
    (gR M13 11 705 (some a0)).bind fun v15 =>
    (pF M13 10 641 v15 (jmin v6 (jmin v10 v14))).bind fun M16 =>
    (gR M16 11 706 (some a0)).bind fun v17 =>
    (rc M16 4 v17).bind fun q18 =>
    b2 (fX4_repeat fu q18 (jmin v6 (jmin v10 v14)) M16) fun v20 M19 =>
    if v20 = 0 then (
    (gR M19 11 707 (some a0)).bind fun v21 =>
    (rc M19 3 v21).bind fun q22 =>
    b2 (fX3_expire fu q22 (jmin v6 (jmin v10 v14)) M19) fun v24 M23 =>
    if v24 = 0 then (
    (gR M23 11 708 (some a0)).bind fun v25 =>
    (rc M23 9 v25).bind fun q26 =>
    b2 (fX9_dueFirst fu q26 (jmin v6 (jmin v10 v14)) M23) fun v28 M27 =>
    if v28 = none then (
    (gR M27 11 705 (some a0)).bind fun v39 =>
    (pF M27 10 641 v39 a1).bind fun M40 =>
    some M40)
    else (
    (gR M27 1 81 v28).bind fun v29 =>
    (gI M27 5 324 v29).bind fun v30 =>
    if v30 = (jmin v6 (jmin v10 v14)) then (
    (gR M27 11 708 (some a0)).bind fun v36 =>
    (rc M27 9 v36).bind fun q37 =>
    (fX9_runOut fu q37 v28 M27).bind fun M38 =>
    fX11_goOn_L133 fu (fun b0 b1 b2 M => fX11_goOn_L2 fu  n b0 b1 b2 M) a0 a1 a2 M38)
    else (
    (rc M27 1 v28).bind fun q31 =>
    (fX1_endLife fu q31  M27).bind fun M32 =>
    (gR M32 11 708 (some a0)).bind fun v33 =>
    (rc M32 9 v33).bind fun q34 =>
    (fX9_sendWhatMay fu q34 v28 M32).bind fun M35 =>
    fX11_goOn_L133 fu (fun b0 b1 b2 M => fX11_goOn_L2 fu  n b0 b1 b2 M) a0 a1 a2 M35)))
    else (
    fX11_goOn_L133 fu (fun b0 b1 b2 M => fX11_goOn_L2 fu  n b0 b1 b2 M) a0 a1 a2 M23))
    else (
    fX11_goOn_L133 fu (fun b0 b1 b2 M => fX11_goOn_L2 fu  n b0 b1 b2 M) a0 a1 a2 M19))
    else (
    (gR M13 11 705 (some a0)).bind fun v41 =>
    (pF M13 10 641 v41 a1).bind fun M42 =>
    some M42))
def fX11_goOn (fu : Nat)  (a0 : Nat) (a1 : Int32)  (M : Mm) : Option (Mm) :=
    fX11_goOn_L2 fu  fu a0 a1 (0 : Int32) M
theorem dX11_goOn_0 : decode cX11_goOn 0 = .ok (.iconst 0, 1) := by decide +kernel
theorem dX11_goOn_1 : decode cX11_goOn 1 = .ok (.istore_n 2, 1) := by decide +kernel
theorem dX11_goOn_2 : decode cX11_goOn 2 = .ok (.iload_n 2, 1) := by decide +kernel
theorem dX11_goOn_3 : decode cX11_goOn 3 = .ok (.ldc 205, 2) := by decide +kernel
theorem dX11_goOn_5 : decode cX11_goOn 5 = .ok (.if_icmp .ge 134, 3) := by decide +kernel
theorem dX11_goOn_8 : decode cX11_goOn 8 = .ok (.aload_n 0, 1) := by decide +kernel
theorem dX11_goOn_9 : decode cX11_goOn 9 = .ok (.getfield 28, 3) := by decide +kernel
theorem dX11_goOn_12 : decode cX11_goOn 12 = .ok (.invokevirtual 206, 3) := by decide +kernel
theorem dX11_goOn_15 : decode cX11_goOn 15 = .ok (.aload_n 0, 1) := by decide +kernel
theorem dX11_goOn_16 : decode cX11_goOn 16 = .ok (.getfield 37, 3) := by decide +kernel
theorem dX11_goOn_19 : decode cX11_goOn 19 = .ok (.invokevirtual 210, 3) := by decide +kernel
theorem dX11_goOn_22 : decode cX11_goOn 22 = .ok (.aload_n 0, 1) := by decide +kernel
theorem dX11_goOn_23 : decode cX11_goOn 23 = .ok (.getfield 46, 3) := by decide +kernel
theorem dX11_goOn_26 : decode cX11_goOn 26 = .ok (.invokevirtual 211, 3) := by decide +kernel
theorem dX11_goOn_29 : decode cX11_goOn 29 = .ok (.invokestatic 68, 3) := by decide +kernel
theorem dX11_goOn_32 : decode cX11_goOn 32 = .ok (.invokestatic 68, 3) := by decide +kernel
theorem dX11_goOn_35 : decode cX11_goOn 35 = .ok (.istore_n 3, 1) := by decide +kernel
theorem dX11_goOn_36 : decode cX11_goOn 36 = .ok (.iload_n 3, 1) := by decide +kernel
theorem dX11_goOn_37 : decode cX11_goOn 37 = .ok (.iload_n 1, 1) := by decide +kernel
theorem dX11_goOn_38 : decode cX11_goOn 38 = .ok (.if_icmp .le 6, 3) := by decide +kernel
theorem dX11_goOn_41 : decode cX11_goOn 41 = .ok (.goto 98, 3) := by decide +kernel
theorem dX11_goOn_44 : decode cX11_goOn 44 = .ok (.aload_n 0, 1) := by decide +kernel
theorem dX11_goOn_45 : decode cX11_goOn 45 = .ok (.getfield 19, 3) := by decide +kernel
theorem dX11_goOn_48 : decode cX11_goOn 48 = .ok (.iload_n 3, 1) := by decide +kernel
theorem dX11_goOn_49 : decode cX11_goOn 49 = .ok (.putfield 154, 3) := by decide +kernel
theorem dX11_goOn_52 : decode cX11_goOn 52 = .ok (.aload_n 0, 1) := by decide +kernel
theorem dX11_goOn_53 : decode cX11_goOn 53 = .ok (.getfield 28, 3) := by decide +kernel
theorem dX11_goOn_56 : decode cX11_goOn 56 = .ok (.iload_n 3, 1) := by decide +kernel
theorem dX11_goOn_57 : decode cX11_goOn 57 = .ok (.invokevirtual 212, 3) := by decide +kernel
theorem dX11_goOn_60 : decode cX11_goOn 60 = .ok (.ifCond .ne 73, 3) := by decide +kernel
theorem dX11_goOn_63 : decode cX11_goOn 63 = .ok (.aload_n 0, 1) := by decide +kernel
theorem dX11_goOn_64 : decode cX11_goOn 64 = .ok (.getfield 37, 3) := by decide +kernel
theorem dX11_goOn_67 : decode cX11_goOn 67 = .ok (.iload_n 3, 1) := by decide +kernel
theorem dX11_goOn_68 : decode cX11_goOn 68 = .ok (.invokevirtual 215, 3) := by decide +kernel
theorem dX11_goOn_71 : decode cX11_goOn 71 = .ok (.ifCond .eq 6, 3) := by decide +kernel
theorem dX11_goOn_74 : decode cX11_goOn 74 = .ok (.goto 59, 3) := by decide +kernel
theorem dX11_goOn_77 : decode cX11_goOn 77 = .ok (.aload_n 0, 1) := by decide +kernel
theorem dX11_goOn_78 : decode cX11_goOn 78 = .ok (.getfield 46, 3) := by decide +kernel
theorem dX11_goOn_81 : decode cX11_goOn 81 = .ok (.iload_n 3, 1) := by decide +kernel
theorem dX11_goOn_82 : decode cX11_goOn 82 = .ok (.invokevirtual 218, 3) := by decide +kernel
theorem dX11_goOn_85 : decode cX11_goOn 85 = .ok (.astore 4, 2) := by decide +kernel
theorem dX11_goOn_87 : decode cX11_goOn 87 = .ok (.aload 4, 2) := by decide +kernel
theorem dX11_goOn_89 : decode cX11_goOn 89 = .ok (.ifnonnull 6, 3) := by decide +kernel
theorem dX11_goOn_92 : decode cX11_goOn 92 = .ok (.goto 47, 3) := by decide +kernel
theorem dX11_goOn_95 : decode cX11_goOn 95 = .ok (.aload 4, 2) := by decide +kernel
theorem dX11_goOn_97 : decode cX11_goOn 97 = .ok (.getfield 221, 3) := by decide +kernel
theorem dX11_goOn_100 : decode cX11_goOn 100 = .ok (.getfield 225, 3) := by decide +kernel
theorem dX11_goOn_103 : decode cX11_goOn 103 = .ok (.iload_n 3, 1) := by decide +kernel
theorem dX11_goOn_104 : decode cX11_goOn 104 = .ok (.if_icmp .ne 15, 3) := by decide +kernel
theorem dX11_goOn_107 : decode cX11_goOn 107 = .ok (.aload_n 0, 1) := by decide +kernel
theorem dX11_goOn_108 : decode cX11_goOn 108 = .ok (.getfield 46, 3) := by decide +kernel
theorem dX11_goOn_111 : decode cX11_goOn 111 = .ok (.aload 4, 2) := by decide +kernel
theorem dX11_goOn_113 : decode cX11_goOn 113 = .ok (.invokevirtual 230, 3) := by decide +kernel
theorem dX11_goOn_116 : decode cX11_goOn 116 = .ok (.goto 17, 3) := by decide +kernel
theorem dX11_goOn_119 : decode cX11_goOn 119 = .ok (.aload 4, 2) := by decide +kernel
theorem dX11_goOn_121 : decode cX11_goOn 121 = .ok (.invokevirtual 233, 3) := by decide +kernel
theorem dX11_goOn_124 : decode cX11_goOn 124 = .ok (.aload_n 0, 1) := by decide +kernel
theorem dX11_goOn_125 : decode cX11_goOn 125 = .ok (.getfield 46, 3) := by decide +kernel
theorem dX11_goOn_128 : decode cX11_goOn 128 = .ok (.aload 4, 2) := by decide +kernel
theorem dX11_goOn_130 : decode cX11_goOn 130 = .ok (.invokevirtual 236, 3) := by decide +kernel
theorem dX11_goOn_133 : decode cX11_goOn 133 = .ok (.iinc 2 1, 3) := by decide +kernel
theorem dX11_goOn_136 : decode cX11_goOn 136 = .ok (.goto (-134), 3) := by decide +kernel
theorem dX11_goOn_139 : decode cX11_goOn 139 = .ok (.aload_n 0, 1) := by decide +kernel
theorem dX11_goOn_140 : decode cX11_goOn 140 = .ok (.getfield 19, 3) := by decide +kernel
theorem dX11_goOn_143 : decode cX11_goOn 143 = .ok (.iload_n 1, 1) := by decide +kernel
theorem dX11_goOn_144 : decode cX11_goOn 144 = .ok (.putfield 154, 3) := by decide +kernel
theorem dX11_goOn_147 : decode cX11_goOn 147 = .ok (.return_, 1) := by decide +kernel
theorem wX11_goOn_L133 {x : GX} {n0 sl0 : Nat} (X : Cx x cX11_goOn RX11 none n0 sl0 6 141) {out : Mm} (hE : Ends x n0 sl0 none out) (hn : xn x = 5) (fu : Nat) (k2 : Nat → Int32 → Int32 → Mm → Option (Mm)) (hk2 : ∀ (b0 : Nat) (b1 : Int32) (b2 : Int32)  (M : Mm), k2 b0 b1 b2 M = some out → Gw x M 2 [(0, pR (some b0)), (1, pI b1), (2, pI b2)] []) (a0 : Nat) (a1 : Int32) (a2 : Int32)  (M : Mm) (h : fX11_goOn_L133 fu k2 a0 a1 a2 M = some out) : Gw x M 133 [(0, pR (some a0)), (1, pI a1), (2, pI a2)] [] := by
  unfold fX11_goOn_L133 at h
  refine g_iinc X (pc := 133) 2 [(2, pI (a2 + (1 : Int32))), (0, pR (some a0)), (1, pI a1)] rfl (iinc_e (by decide)) (lt_n hn (by decide)) rfl dX11_goOn_133 ?_
  refine g_goto X (pc := 136) (tgt := 2) dX11_goOn_136 (by decide) ?_
  refine g_sub [1, 2, 0] [(0, pR (some a0)), (1, pI a1), (2, pI (a2 + (1 : Int32)))] rfl ?_
  exact hk2 a0 a1 (a2 + (1 : Int32)) M h
theorem wX11_goOn_L2 {x : GX} {n0 sl0 : Nat} (X : Cx x cX11_goOn RX11 none n0 sl0 6 141) {out : Mm} (hE : Ends x n0 sl0 none out) (hn : xn x = 5) (fu : Nat)   : ∀ (n : Nat) (a0 : Nat) (a1 : Int32) (a2 : Int32)  (M : Mm), fX11_goOn_L2 fu  n a0 a1 a2 M = some out → Gw x M 2 [(0, pR (some a0)), (1, pI a1), (2, pI a2)] [] := by
  intro n
  induction n with
  | zero =>
    intro a0 a1 a2 M h
    have h : (none : Option (Mm)) = some out := h
    cases h
  | succ n ih =>
    intro a0 a1 a2 M h
    rw [fX11_goOn_L2] at h
    refine g_iload_n X (pc := 2) 2 rfl rfl dX11_goOn_2 ?_
    refine g_ldc X (pc := 3) tb_468 dX11_goOn_3 ?_
    refine g_icmp_ge X (pc := 5) (tgt := 139) dX11_goOn_5 (by decide) (fun hc => ?_) (fun hc => ?_)
    · have h := (if_pos hc).symm.trans h
      refine g_aload_n X (pc := 139) 0 rfl rfl dX11_goOn_139 ?_
      obtain ⟨v1, ev1, h⟩ := bd h
      refine g_getR X (pc := 140) fk_11_1 rfl rfl ev1 tb_315 dX11_goOn_140 ?_
      refine g_iload_n X (pc := 143) 1 rfl rfl dX11_goOn_143 ?_
      obtain ⟨M2, eM2, h⟩ := bd h
      refine g_putI X (pc := 144) fk_10_1 rfl rfl rfl eM2 tb_70 (Or.inl rfl) dX11_goOn_144 ?_
      obtain rfl := Option.some.inj h
      exact g_return X hE dX11_goOn_147
    · have h := (if_neg hc).symm.trans h
      refine g_aload_n X (pc := 8) 0 rfl rfl dX11_goOn_8 ?_
      obtain ⟨v3, ev3, h⟩ := bd h
      refine g_getR X (pc := 9) fk_11_2 rfl rfl ev3 tb_316 dX11_goOn_9 ?_
      obtain ⟨q4, eq4, h⟩ := bd h
      obtain ⟨v6, M5, eM5, h⟩ := b2d h
      refine g_callV X (pc := 12) (M' := M5) (ro := some (pI v6)) (c := 4) rfl (by decide) (as := []) (as' := []) (st := []) eq4 (ctX4_earliest _ _ _ _ _ _ fu q4  M _ eM5) tb_472 tb_469 tb_470 tb_471 tb_4 ⟨rfl, hyX4_earliest⟩ rfl rfl ⟨by decide, by decide⟩ (Nat.le_of_ble_eq_true rfl) dX11_goOn_12 ?_
      refine g_aload_n X (pc := 15) 0 rfl rfl dX11_goOn_15 ?_
      obtain ⟨v7, ev7, h⟩ := bd h
      refine g_getR X (pc := 16) fk_11_3 rfl rfl ev7 tb_317 dX11_goOn_16 ?_
      obtain ⟨q8, eq8, h⟩ := bd h
      obtain ⟨v10, M9, eM9, h⟩ := b2d h
      refine g_callV X (pc := 19) (M' := M9) (ro := some (pI v10)) (c := 3) rfl (by decide) (as := []) (as' := []) (st := [pI v6]) eq8 (ctX3_earliest _ _ _ _ _ _ fu q8  M5 _ eM9) tb_481 tb_478 tb_479 tb_480 tb_5 ⟨rfl, hyX3_earliest⟩ rfl rfl ⟨by decide, by decide⟩ (Nat.le_of_ble_eq_true rfl) dX11_goOn_19 ?_
      refine g_aload_n X (pc := 22) 0 rfl rfl dX11_goOn_22 ?_
      obtain ⟨v11, ev11, h⟩ := bd h
      refine g_getR X (pc := 23) fk_11_4 rfl rfl ev11 tb_318 dX11_goOn_23 ?_
      obtain ⟨q12, eq12, h⟩ := bd h
      obtain ⟨v14, M13, eM13, h⟩ := b2d h
      refine g_callV X (pc := 26) (M' := M13) (ro := some (pI v14)) (c := 9) rfl (by decide) (as := []) (as' := []) (st := [pI v10, pI v6]) eq12 (ctX9_earliest _ _ _ _ _ _ fu q12  M9 _ eM13) tb_486 tb_483 tb_484 tb_485 tb_6 ⟨rfl, hyX9_earliest⟩ rfl rfl ⟨by decide, by decide⟩ (Nat.le_of_ble_eq_true rfl) dX11_goOn_26 ?_
      refine g_mmin X (pc := 29) tb_347 tb_348 tb_13 tb_349 ⟨by decide, Nat.le_of_ble_eq_true rfl⟩ dX11_goOn_29 ?_
      refine g_mmin X (pc := 32) tb_347 tb_348 tb_13 tb_349 ⟨by decide, Nat.le_of_ble_eq_true rfl⟩ dX11_goOn_32 ?_
      refine g_istore_n X (pc := 35) [(3, pI (jmin v6 (jmin v10 v14))), (0, pR (some a0)), (1, pI a1), (2, pI a2)] rfl (lt_n hn (by decide)) rfl dX11_goOn_35 ?_
      refine g_iload_n X (pc := 36) 0 rfl rfl dX11_goOn_36 ?_
      refine g_iload_n X (pc := 37) 2 rfl rfl dX11_goOn_37 ?_
      refine g_icmp_le X (pc := 38) (tgt := 44) dX11_goOn_38 (by decide) (fun hc => ?_) (fun hc => ?_)
      · have h := (if_pos hc).symm.trans h
        refine g_aload_n X (pc := 44) 1 rfl rfl dX11_goOn_44 ?_
        obtain ⟨v15, ev15, h⟩ := bd h
        refine g_getR X (pc := 45) fk_11_1 rfl rfl ev15 tb_315 dX11_goOn_45 ?_
        refine g_iload_n X (pc := 48) 0 rfl rfl dX11_goOn_48 ?_
        obtain ⟨M16, eM16, h⟩ := bd h
        refine g_putI X (pc := 49) fk_10_1 rfl rfl rfl eM16 tb_70 (Or.inl rfl) dX11_goOn_49 ?_
        refine g_aload_n X (pc := 52) 1 rfl rfl dX11_goOn_52 ?_
        obtain ⟨v17, ev17, h⟩ := bd h
        refine g_getR X (pc := 53) fk_11_2 rfl rfl ev17 tb_316 dX11_goOn_53 ?_
        refine g_iload_n X (pc := 56) 0 rfl rfl dX11_goOn_56 ?_
        obtain ⟨q18, eq18, h⟩ := bd h
        obtain ⟨v20, M19, eM19, h⟩ := b2d h
        refine g_callV X (pc := 57) (M' := M19) (ro := some (pI v20)) (c := 4) rfl (by decide) (as := [pI (jmin v6 (jmin v10 v14))]) (as' := [pI (jmin v6 (jmin v10 v14))]) (st := []) eq18 (ctX4_repeat _ _ _ _ _ _ fu q18 (jmin v6 (jmin v10 v14)) M16 _ eM19) tb_512 tb_509 tb_510 tb_511 tb_4 ⟨rfl, hyX4_repeat⟩ rfl rfl ⟨by decide, by decide⟩ (Nat.le_of_ble_eq_true rfl) dX11_goOn_57 ?_
        refine g_if_ne X (pc := 60) (tgt := 133) dX11_goOn_60 (by decide) (fun hc => ?_) (fun hc => ?_)
        · have h := (if_neg hc).symm.trans h
          refine g_sub [1, 2, 3] [(0, pR (some a0)), (1, pI a1), (2, pI a2)] rfl ?_
          exact wX11_goOn_L133 X hE hn fu (fun b0 b1 b2 M => fX11_goOn_L2 fu  n b0 b1 b2 M) ih a0 a1 a2 M19 h
        · have h := (if_pos hc).symm.trans h
          refine g_aload_n X (pc := 63) 1 rfl rfl dX11_goOn_63 ?_
          obtain ⟨v21, ev21, h⟩ := bd h
          refine g_getR X (pc := 64) fk_11_3 rfl rfl ev21 tb_317 dX11_goOn_64 ?_
          refine g_iload_n X (pc := 67) 0 rfl rfl dX11_goOn_67 ?_
          obtain ⟨q22, eq22, h⟩ := bd h
          obtain ⟨v24, M23, eM23, h⟩ := b2d h
          refine g_callV X (pc := 68) (M' := M23) (ro := some (pI v24)) (c := 3) rfl (by decide) (as := [pI (jmin v6 (jmin v10 v14))]) (as' := [pI (jmin v6 (jmin v10 v14))]) (st := []) eq22 (ctX3_expire _ _ _ _ _ _ fu q22 (jmin v6 (jmin v10 v14)) M19 _ eM23) tb_572 tb_569 tb_570 tb_571 tb_5 ⟨rfl, hyX3_expire⟩ rfl rfl ⟨by decide, by decide⟩ (Nat.le_of_ble_eq_true rfl) dX11_goOn_68 ?_
          refine g_if_eq X (pc := 71) (tgt := 77) dX11_goOn_71 (by decide) (fun hc => ?_) (fun hc => ?_)
          · have h := (if_pos hc).symm.trans h
            refine g_aload_n X (pc := 77) 1 rfl rfl dX11_goOn_77 ?_
            obtain ⟨v25, ev25, h⟩ := bd h
            refine g_getR X (pc := 78) fk_11_4 rfl rfl ev25 tb_318 dX11_goOn_78 ?_
            refine g_iload_n X (pc := 81) 0 rfl rfl dX11_goOn_81 ?_
            obtain ⟨q26, eq26, h⟩ := bd h
            obtain ⟨v28, M27, eM27, h⟩ := b2d h
            refine g_callV X (pc := 82) (M' := M27) (ro := some (pR v28)) (c := 9) rfl (by decide) (as := [pI (jmin v6 (jmin v10 v14))]) (as' := [pI (jmin v6 (jmin v10 v14))]) (st := []) eq26 (ctX9_dueFirst _ _ _ _ _ _ fu q26 (jmin v6 (jmin v10 v14)) M23 _ eM27) tb_581 tb_578 tb_579 tb_580 tb_6 ⟨rfl, hyX9_dueFirst⟩ rfl rfl ⟨by decide, by decide⟩ (Nat.le_of_ble_eq_true rfl) dX11_goOn_82 ?_
            refine g_astore X (pc := 85) [(4, pR v28), (3, pI (jmin v6 (jmin v10 v14))), (0, pR (some a0)), (1, pI a1), (2, pI a2)] (lt_n hn (by decide)) rfl dX11_goOn_85 ?_
            refine g_aload X (pc := 87) 0 rfl dX11_goOn_87 ?_
            refine g_ifnonnull X (pc := 89) (tgt := 95) dX11_goOn_89 (by decide) (fun hc => ?_) (fun hc => ?_)
            · have h := (if_neg hc).symm.trans h
              refine g_aload X (pc := 95) 0 rfl dX11_goOn_95 ?_
              obtain ⟨v29, ev29, h⟩ := bd h
              refine g_getR X (pc := 97) fk_1_17 rfl rfl ev29 tb_998 dX11_goOn_97 ?_
              obtain ⟨v30, ev30, h⟩ := bd h
              refine g_getI X (pc := 100) fk_5_4 rfl rfl ev30 tb_913 dX11_goOn_100 ?_
              refine g_iload_n X (pc := 103) 1 rfl rfl dX11_goOn_103 ?_
              refine g_icmp_ne X (pc := 104) (tgt := 119) dX11_goOn_104 (by decide) (fun hc => ?_) (fun hc => ?_)
              · have h := (if_neg hc).symm.trans h
                refine g_aload X (pc := 119) 0 rfl dX11_goOn_119 ?_
                obtain ⟨q31, eq31, h⟩ := bd h
                obtain ⟨M32, eM32, h⟩ := bd h
                refine g_callV X (pc := 121) (M' := M32) (ro := none) (c := 1) rfl (by decide) (as := []) (as' := []) (st := []) eq31 (ctX1_endLife _ _ _ _ _ _ fu q31  M27 _ eM32) tb_700 tb_697 tb_698 tb_699 tb_18 ⟨rfl, hyX1_endLife⟩ rfl rfl ⟨by decide, by decide⟩ (Nat.le_of_ble_eq_true rfl) dX11_goOn_121 ?_
                refine g_aload_n X (pc := 124) 2 rfl rfl dX11_goOn_124 ?_
                obtain ⟨v33, ev33, h⟩ := bd h
                refine g_getR X (pc := 125) fk_11_4 rfl rfl ev33 tb_318 dX11_goOn_125 ?_
                refine g_aload X (pc := 128) 0 rfl dX11_goOn_128 ?_
                obtain ⟨q34, eq34, h⟩ := bd h
                obtain ⟨M35, eM35, h⟩ := bd h
                refine g_callV X (pc := 130) (M' := M35) (ro := none) (c := 9) rfl (by decide) (as := [pR v28]) (as' := [pR v28]) (st := []) eq34 (ctX9_sendWhatMay _ _ _ _ _ _ fu q34 v28 M32 _ eM35) tb_705 tb_702 tb_703 tb_704 tb_6 ⟨rfl, hyX9_sendWhatMay⟩ rfl rfl ⟨by decide, by decide⟩ (Nat.le_of_ble_eq_true rfl) dX11_goOn_130 ?_
                refine g_sub [2, 3, 4] [(0, pR (some a0)), (1, pI a1), (2, pI a2)] rfl ?_
                exact wX11_goOn_L133 X hE hn fu (fun b0 b1 b2 M => fX11_goOn_L2 fu  n b0 b1 b2 M) ih a0 a1 a2 M35 h
              · have h := (if_pos hc).symm.trans h
                refine g_aload_n X (pc := 107) 2 rfl rfl dX11_goOn_107 ?_
                obtain ⟨v36, ev36, h⟩ := bd h
                refine g_getR X (pc := 108) fk_11_4 rfl rfl ev36 tb_318 dX11_goOn_108 ?_
                refine g_aload X (pc := 111) 0 rfl dX11_goOn_111 ?_
                obtain ⟨q37, eq37, h⟩ := bd h
                obtain ⟨M38, eM38, h⟩ := bd h
                refine g_callV X (pc := 113) (M' := M38) (ro := none) (c := 9) rfl (by decide) (as := [pR v28]) (as' := [pR v28]) (st := []) eq37 (ctX9_runOut _ _ _ _ _ _ fu q37 v28 M27 _ eM38) tb_585 tb_582 tb_583 tb_584 tb_6 ⟨rfl, hyX9_runOut⟩ rfl rfl ⟨by decide, by decide⟩ (Nat.le_of_ble_eq_true rfl) dX11_goOn_113 ?_
                refine g_goto X (pc := 116) (tgt := 133) dX11_goOn_116 (by decide) ?_
                refine g_sub [2, 3, 4] [(0, pR (some a0)), (1, pI a1), (2, pI a2)] rfl ?_
                exact wX11_goOn_L133 X hE hn fu (fun b0 b1 b2 M => fX11_goOn_L2 fu  n b0 b1 b2 M) ih a0 a1 a2 M38 h
            · have h := (if_pos hc).symm.trans h
              refine g_goto X (pc := 92) (tgt := 139) dX11_goOn_92 (by decide) ?_
              refine g_aload_n X (pc := 139) 2 rfl rfl dX11_goOn_139 ?_
              obtain ⟨v39, ev39, h⟩ := bd h
              refine g_getR X (pc := 140) fk_11_1 rfl rfl ev39 tb_315 dX11_goOn_140 ?_
              refine g_iload_n X (pc := 143) 3 rfl rfl dX11_goOn_143 ?_
              obtain ⟨M40, eM40, h⟩ := bd h
              refine g_putI X (pc := 144) fk_10_1 rfl rfl rfl eM40 tb_70 (Or.inl rfl) dX11_goOn_144 ?_
              obtain rfl := Option.some.inj h
              exact g_return X hE dX11_goOn_147
          · have h := (if_neg hc).symm.trans h
            refine g_goto X (pc := 74) (tgt := 133) dX11_goOn_74 (by decide) ?_
            refine g_sub [1, 2, 3] [(0, pR (some a0)), (1, pI a1), (2, pI a2)] rfl ?_
            exact wX11_goOn_L133 X hE hn fu (fun b0 b1 b2 M => fX11_goOn_L2 fu  n b0 b1 b2 M) ih a0 a1 a2 M23 h
      · have h := (if_neg hc).symm.trans h
        refine g_goto X (pc := 41) (tgt := 139) dX11_goOn_41 (by decide) ?_
        refine g_aload_n X (pc := 139) 1 rfl rfl dX11_goOn_139 ?_
        obtain ⟨v41, ev41, h⟩ := bd h
        refine g_getR X (pc := 140) fk_11_1 rfl rfl ev41 tb_315 dX11_goOn_140 ?_
        refine g_iload_n X (pc := 143) 2 rfl rfl dX11_goOn_143 ?_
        obtain ⟨M42, eM42, h⟩ := bd h
        refine g_putI X (pc := 144) fk_10_1 rfl rfl rfl eM42 tb_70 (Or.inl rfl) dX11_goOn_144 ?_
        obtain rfl := Option.some.inj h
        exact g_return X hE dX11_goOn_147
theorem wX11_goOn {x : GX} {n0 sl0 : Nat} (X : Cx x cX11_goOn RX11 none n0 sl0 6 141) {out : Mm} (hE : Ends x n0 sl0 none out) (hn : xn x = 5) (fu : Nat)   (a0 : Nat) (a1 : Int32)  (M : Mm) (h : fX11_goOn fu  a0 a1 M = some out) : Gw x M 0 [(0, pR (some a0)), (1, pI a1)] [] := by
  unfold fX11_goOn at h
  refine g_iconst X (pc := 0) (v := 0) dX11_goOn_0 (by decide) ?_
  refine g_istore_n X (pc := 1) [(2, pI (0 : Int32)), (0, pR (some a0)), (1, pI a1)] rfl (lt_n hn (by decide)) rfl dX11_goOn_1 ?_
  refine g_sub [1, 2, 0] [(0, pR (some a0)), (1, pI a1), (2, pI (0 : Int32))] rfl ?_
  exact wX11_goOn_L2 X hE hn fu   fu a0 a1 (0 : Int32) M h
theorem hyX11_goOn : yX11_goOn.cls ≠ "java/lang/invoke/MethodHandle" ∧ yX11_goOn.cls ≠ "java/lang/invoke/VarHandle" ∧ (parseMethodDescriptor yX11_goOn.desc).map (fun d => d.parameters.length) = some 1 := ⟨by decide +kernel, by decide +kernel, by decide +kernel⟩
theorem ctX11_goOn (l : Launch) (E : Nat → Nat) (D : va_G) (dA : Nat → ClassId) (lo : Nat) (H0 : Heap) (fu : Nat) (a0 : Nat) (a1 : Int32) (M : Mm) (out : Mm) (h : fX11_goOn fu a0 a1 M = some out) : Ct l E D dA lo H0 yX11_goOn cX11_goOn 5 none 6 141 [pR (some a0), pI a1] M none out := by
  refine ct_of (by decide +kernel) (Nat.le_of_ble_eq_true rfl) ?_
  intro x hl he hd ha ho hh hn hin X hE
  exact wX11_goOn X hE hn fu a0 a1 M h
