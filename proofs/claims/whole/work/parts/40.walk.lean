/-! ===== walks of methods, printed by a program of ours ===== -/
/-! WebHostModel.fresh(LWebHostModel$Connection;)V -/
def fX16_fresh_L198 (fu : Nat)  (a0 : Nat) (a1 : Option Nat)  (M : Mm) : Option (Mm) :=
    (pF M 12 792 a1 (0 : Int32)).bind fun M1 =>
    (gI M1 16 1034 (some a0)).bind fun v2 =>
    (pF M1 12 812 a1 v2).bind fun M3 =>
    (pZ M3 12 789 a1 (0 : Int32)).bind fun M4 =>
    (gI M4 12 772 a1).bind fun v5 =>
    (gI M4 12 774 a1).bind fun v6 =>
    b2 (fX16_before fu  v5 v6 M4) fun v8 M7 =>
    if v8 = 0 then (
    some M7)
    else (
    (rc M7 16 (some a0)).bind fun q9 =>
    (fX16_timerSet fu q9 a1 M7).bind fun M10 =>
    some M10)
def fX16_fresh_L182 (fu : Nat)  (a0 : Nat) (a1 : Option Nat) (s0 : Int32) (M : Mm) : Option (Mm) :=
    (gI M 12 779 a1).bind fun v1 =>
    (pF M 12 779 a1 (jmin (65535 : Int32) (v1 + s0))).bind fun M2 =>
    fX16_fresh_L198 fu  a0 a1 M2
def fX16_fresh_L111 (fu : Nat)  (a0 : Nat) (a1 : Option Nat) (a2 : Int32)  (M : Mm) : Option (Mm) :=
    (gI M 12 786 a1).bind fun v1 =>
    if v1 = 0 then (
    (gI M 12 768 a1).bind fun v2 =>
    if v2 = (1 : Int32) then (
    fX16_fresh_L198 fu  a0 a1 M)
    else (
    (gI M 12 779 a1).bind fun v3 =>
    (gI M 12 780 a1).bind fun v4 =>
    if v4 ≤ v3 then (
    (gI M 12 778 a1).bind fun v5 =>
    (gI M 12 778 a1).bind fun v6 =>
    (gI M 12 779 a1).bind fun v7 =>
    if v7 = 0 then none else
    fX16_fresh_L182 fu  a0 a1 (jmax (1 : Int32) ((v5 * v6) / v7)) M)
    else (
    (gI M 12 778 a1).bind fun v8 =>
    fX16_fresh_L182 fu  a0 a1 (jmin a2 v8) M)))
    else (
    (pZ M 12 786 a1 (0 : Int32)).bind fun M9 =>
    (gI M9 12 780 a1).bind fun v10 =>
    (pF M9 12 779 a1 v10).bind fun M11 =>
    fX16_fresh_L198 fu  a0 a1 M11)
def fX16_fresh_L67 (fu : Nat)  (a0 : Nat) (a1 : Option Nat) (a2 : Int32)  (M : Mm) : Option (Mm) :=
    (pF M 12 791 a1 (0 : Int32)).bind fun M1 =>
    (gI M1 12 785 a1).bind fun v2 =>
    if v2 = 0 then (
    fX16_fresh_L111 fu  a0 a1 a2 M1)
    else (
    (gI M1 16 1059 (some a0)).bind fun v3 =>
    (gI M1 12 787 a1).bind fun v4 =>
    b2 (fX16_isBehind fu  v3 v4 M1) fun v6 M5 =>
    if v6 = 0 then (
    fX16_fresh_L111 fu  a0 a1 a2 M5)
    else (
    (pZ M5 12 785 a1 (0 : Int32)).bind fun M7 =>
    (gI M7 16 1034 (some a0)).bind fun v8 =>
    (gI M7 12 788 a1).bind fun v9 =>
    (fX16_measure fu  a1 (v8 - v9) M7).bind fun M10 =>
    fX16_fresh_L111 fu  a0 a1 a2 M10))
def fX16_fresh (fu : Nat)  (a0 : Nat) (a1 : Option Nat)  (M : Mm) : Option (Mm) :=
    (gI M 16 1059 (some a0)).bind fun v1 =>
    (gI M 12 772 a1).bind fun v2 =>
    (gR M 16 1041 (some a0)).bind fun v3 =>
    (gA M 101 v3 (6 : Int32)).bind fun v4 =>
    (pA M 101 v3 (6 : Int32) (v4 + (1 : Int32))).bind fun M5 =>
    (gR M5 16 1041 (some a0)).bind fun v6 =>
    (gR M5 16 1041 (some a0)).bind fun v7 =>
    (gA M5 101 v7 (7 : Int32)).bind fun v8 =>
    (pA M5 101 v6 (7 : Int32) (v8 + (v1 - v2))).bind fun M9 =>
    (gI M9 16 1059 (some a0)).bind fun v10 =>
    (pF M9 12 772 a1 v10).bind fun M11 =>
    (gI M11 12 773 a1).bind fun v12 =>
    (gI M11 12 772 a1).bind fun v13 =>
    b2 (fX16_before fu  v12 v13 M11) fun v15 M14 =>
    if v15 = 0 then (
    fX16_fresh_L67 fu  a0 a1 (v1 - v2) M14)
    else (
    (gI M14 12 772 a1).bind fun v16 =>
    (pF M14 12 773 a1 v16).bind fun M17 =>
    fX16_fresh_L67 fu  a0 a1 (v1 - v2) M17)
theorem dX16_fresh_0 : decode cX16_fresh 0 = .ok (.aload_n 0, 1) := by decide +kernel
theorem dX16_fresh_1 : decode cX16_fresh 1 = .ok (.getfield 299, 3) := by decide +kernel
theorem dX16_fresh_4 : decode cX16_fresh 4 = .ok (.aload_n 1, 1) := by decide +kernel
theorem dX16_fresh_5 : decode cX16_fresh 5 = .ok (.getfield 428, 3) := by decide +kernel
theorem dX16_fresh_8 : decode cX16_fresh 8 = .ok (.isub, 1) := by decide +kernel
theorem dX16_fresh_9 : decode cX16_fresh 9 = .ok (.istore_n 2, 1) := by decide +kernel
theorem dX16_fresh_10 : decode cX16_fresh 10 = .ok (.aload_n 0, 1) := by decide +kernel
theorem dX16_fresh_11 : decode cX16_fresh 11 = .ok (.getfield 31, 3) := by decide +kernel
theorem dX16_fresh_14 : decode cX16_fresh 14 = .ok (.bipush 6, 2) := by decide +kernel
theorem dX16_fresh_16 : decode cX16_fresh 16 = .ok (.dup2, 1) := by decide +kernel
theorem dX16_fresh_17 : decode cX16_fresh 17 = .ok (.iaload, 1) := by decide +kernel
theorem dX16_fresh_18 : decode cX16_fresh 18 = .ok (.iconst 1, 1) := by decide +kernel
theorem dX16_fresh_19 : decode cX16_fresh 19 = .ok (.iadd, 1) := by decide +kernel
theorem dX16_fresh_20 : decode cX16_fresh 20 = .ok (.iastore, 1) := by decide +kernel
theorem dX16_fresh_21 : decode cX16_fresh 21 = .ok (.aload_n 0, 1) := by decide +kernel
theorem dX16_fresh_22 : decode cX16_fresh 22 = .ok (.getfield 31, 3) := by decide +kernel
theorem dX16_fresh_25 : decode cX16_fresh 25 = .ok (.bipush 7, 2) := by decide +kernel
theorem dX16_fresh_27 : decode cX16_fresh 27 = .ok (.aload_n 0, 1) := by decide +kernel
theorem dX16_fresh_28 : decode cX16_fresh 28 = .ok (.getfield 31, 3) := by decide +kernel
theorem dX16_fresh_31 : decode cX16_fresh 31 = .ok (.bipush 7, 2) := by decide +kernel
theorem dX16_fresh_33 : decode cX16_fresh 33 = .ok (.iaload, 1) := by decide +kernel
theorem dX16_fresh_34 : decode cX16_fresh 34 = .ok (.iload_n 2, 1) := by decide +kernel
theorem dX16_fresh_35 : decode cX16_fresh 35 = .ok (.iadd, 1) := by decide +kernel
theorem dX16_fresh_36 : decode cX16_fresh 36 = .ok (.iastore, 1) := by decide +kernel
theorem dX16_fresh_37 : decode cX16_fresh 37 = .ok (.aload_n 1, 1) := by decide +kernel
theorem dX16_fresh_38 : decode cX16_fresh 38 = .ok (.aload_n 0, 1) := by decide +kernel
theorem dX16_fresh_39 : decode cX16_fresh 39 = .ok (.getfield 299, 3) := by decide +kernel
theorem dX16_fresh_42 : decode cX16_fresh 42 = .ok (.putfield 428, 3) := by decide +kernel
theorem dX16_fresh_45 : decode cX16_fresh 45 = .ok (.aload_n 1, 1) := by decide +kernel
theorem dX16_fresh_46 : decode cX16_fresh 46 = .ok (.getfield 345, 3) := by decide +kernel
theorem dX16_fresh_49 : decode cX16_fresh 49 = .ok (.aload_n 1, 1) := by decide +kernel
theorem dX16_fresh_50 : decode cX16_fresh 50 = .ok (.getfield 428, 3) := by decide +kernel
theorem dX16_fresh_53 : decode cX16_fresh 53 = .ok (.invokestatic 363, 3) := by decide +kernel
theorem dX16_fresh_56 : decode cX16_fresh 56 = .ok (.ifCond .eq 11, 3) := by decide +kernel
theorem dX16_fresh_59 : decode cX16_fresh 59 = .ok (.aload_n 1, 1) := by decide +kernel
theorem dX16_fresh_60 : decode cX16_fresh 60 = .ok (.aload_n 1, 1) := by decide +kernel
theorem dX16_fresh_61 : decode cX16_fresh 61 = .ok (.getfield 428, 3) := by decide +kernel
theorem dX16_fresh_64 : decode cX16_fresh 64 = .ok (.putfield 345, 3) := by decide +kernel
theorem dX16_fresh_67 : decode cX16_fresh 67 = .ok (.aload_n 1, 1) := by decide +kernel
theorem dX16_fresh_68 : decode cX16_fresh 68 = .ok (.iconst 0, 1) := by decide +kernel
theorem dX16_fresh_69 : decode cX16_fresh 69 = .ok (.putfield 466, 3) := by decide +kernel
theorem dX16_fresh_72 : decode cX16_fresh 72 = .ok (.aload_n 1, 1) := by decide +kernel
theorem dX16_fresh_73 : decode cX16_fresh 73 = .ok (.getfield 367, 3) := by decide +kernel
theorem dX16_fresh_76 : decode cX16_fresh 76 = .ok (.ifCond .eq 35, 3) := by decide +kernel
theorem dX16_fresh_79 : decode cX16_fresh 79 = .ok (.aload_n 0, 1) := by decide +kernel
theorem dX16_fresh_80 : decode cX16_fresh 80 = .ok (.getfield 299, 3) := by decide +kernel
theorem dX16_fresh_83 : decode cX16_fresh 83 = .ok (.aload_n 1, 1) := by decide +kernel
theorem dX16_fresh_84 : decode cX16_fresh 84 = .ok (.getfield 370, 3) := by decide +kernel
theorem dX16_fresh_87 : decode cX16_fresh 87 = .ok (.invokestatic 529, 3) := by decide +kernel
theorem dX16_fresh_90 : decode cX16_fresh 90 = .ok (.ifCond .eq 21, 3) := by decide +kernel
theorem dX16_fresh_93 : decode cX16_fresh 93 = .ok (.aload_n 1, 1) := by decide +kernel
theorem dX16_fresh_94 : decode cX16_fresh 94 = .ok (.iconst 0, 1) := by decide +kernel
theorem dX16_fresh_95 : decode cX16_fresh 95 = .ok (.putfield 367, 3) := by decide +kernel
theorem dX16_fresh_98 : decode cX16_fresh 98 = .ok (.aload_n 1, 1) := by decide +kernel
theorem dX16_fresh_99 : decode cX16_fresh 99 = .ok (.aload_n 0, 1) := by decide +kernel
theorem dX16_fresh_100 : decode cX16_fresh 100 = .ok (.getfield 134, 3) := by decide +kernel
theorem dX16_fresh_103 : decode cX16_fresh 103 = .ok (.aload_n 1, 1) := by decide +kernel
theorem dX16_fresh_104 : decode cX16_fresh 104 = .ok (.getfield 373, 3) := by decide +kernel
theorem dX16_fresh_107 : decode cX16_fresh 107 = .ok (.isub, 1) := by decide +kernel
theorem dX16_fresh_108 : decode cX16_fresh 108 = .ok (.invokestatic 535, 3) := by decide +kernel
theorem dX16_fresh_111 : decode cX16_fresh 111 = .ok (.aload_n 1, 1) := by decide +kernel
theorem dX16_fresh_112 : decode cX16_fresh 112 = .ok (.getfield 463, 3) := by decide +kernel
theorem dX16_fresh_115 : decode cX16_fresh 115 = .ok (.ifCond .eq 19, 3) := by decide +kernel
theorem dX16_fresh_118 : decode cX16_fresh 118 = .ok (.aload_n 1, 1) := by decide +kernel
theorem dX16_fresh_119 : decode cX16_fresh 119 = .ok (.iconst 0, 1) := by decide +kernel
theorem dX16_fresh_120 : decode cX16_fresh 120 = .ok (.putfield 463, 3) := by decide +kernel
theorem dX16_fresh_123 : decode cX16_fresh 123 = .ok (.aload_n 1, 1) := by decide +kernel
theorem dX16_fresh_124 : decode cX16_fresh 124 = .ok (.aload_n 1, 1) := by decide +kernel
theorem dX16_fresh_125 : decode cX16_fresh 125 = .ok (.getfield 457, 3) := by decide +kernel
theorem dX16_fresh_128 : decode cX16_fresh 128 = .ok (.putfield 431, 3) := by decide +kernel
theorem dX16_fresh_131 : decode cX16_fresh 131 = .ok (.goto 67, 3) := by decide +kernel
theorem dX16_fresh_134 : decode cX16_fresh 134 = .ok (.aload_n 1, 1) := by decide +kernel
theorem dX16_fresh_135 : decode cX16_fresh 135 = .ok (.getfield 152, 3) := by decide +kernel
theorem dX16_fresh_138 : decode cX16_fresh 138 = .ok (.iconst 1, 1) := by decide +kernel
theorem dX16_fresh_139 : decode cX16_fresh 139 = .ok (.if_icmp .eq 59, 3) := by decide +kernel
theorem dX16_fresh_142 : decode cX16_fresh 142 = .ok (.aload_n 1, 1) := by decide +kernel
theorem dX16_fresh_143 : decode cX16_fresh 143 = .ok (.getfield 431, 3) := by decide +kernel
theorem dX16_fresh_146 : decode cX16_fresh 146 = .ok (.aload_n 1, 1) := by decide +kernel
theorem dX16_fresh_147 : decode cX16_fresh 147 = .ok (.getfield 457, 3) := by decide +kernel
theorem dX16_fresh_150 : decode cX16_fresh 150 = .ok (.if_icmp .ge 14, 3) := by decide +kernel
theorem dX16_fresh_153 : decode cX16_fresh 153 = .ok (.iload_n 2, 1) := by decide +kernel
theorem dX16_fresh_154 : decode cX16_fresh 154 = .ok (.aload_n 1, 1) := by decide +kernel
theorem dX16_fresh_155 : decode cX16_fresh 155 = .ok (.getfield 405, 3) := by decide +kernel
theorem dX16_fresh_158 : decode cX16_fresh 158 = .ok (.invokestatic 411, 3) := by decide +kernel
theorem dX16_fresh_161 : decode cX16_fresh 161 = .ok (.goto 21, 3) := by decide +kernel
theorem dX16_fresh_164 : decode cX16_fresh 164 = .ok (.iconst 1, 1) := by decide +kernel
theorem dX16_fresh_165 : decode cX16_fresh 165 = .ok (.aload_n 1, 1) := by decide +kernel
theorem dX16_fresh_166 : decode cX16_fresh 166 = .ok (.getfield 405, 3) := by decide +kernel
theorem dX16_fresh_169 : decode cX16_fresh 169 = .ok (.aload_n 1, 1) := by decide +kernel
theorem dX16_fresh_170 : decode cX16_fresh 170 = .ok (.getfield 405, 3) := by decide +kernel
theorem dX16_fresh_173 : decode cX16_fresh 173 = .ok (.imul, 1) := by decide +kernel
theorem dX16_fresh_174 : decode cX16_fresh 174 = .ok (.aload_n 1, 1) := by decide +kernel
theorem dX16_fresh_175 : decode cX16_fresh 175 = .ok (.getfield 431, 3) := by decide +kernel
theorem dX16_fresh_178 : decode cX16_fresh 178 = .ok (.idiv, 1) := by decide +kernel
theorem dX16_fresh_179 : decode cX16_fresh 179 = .ok (.invokestatic 164, 3) := by decide +kernel
theorem dX16_fresh_182 : decode cX16_fresh 182 = .ok (.istore_n 3, 1) := by decide +kernel
theorem dX16_fresh_183 : decode cX16_fresh 183 = .ok (.aload_n 1, 1) := by decide +kernel
theorem dX16_fresh_184 : decode cX16_fresh 184 = .ok (.ldc 14, 2) := by decide +kernel
theorem dX16_fresh_186 : decode cX16_fresh 186 = .ok (.aload_n 1, 1) := by decide +kernel
theorem dX16_fresh_187 : decode cX16_fresh 187 = .ok (.getfield 431, 3) := by decide +kernel
theorem dX16_fresh_190 : decode cX16_fresh 190 = .ok (.iload_n 3, 1) := by decide +kernel
theorem dX16_fresh_191 : decode cX16_fresh 191 = .ok (.iadd, 1) := by decide +kernel
theorem dX16_fresh_192 : decode cX16_fresh 192 = .ok (.invokestatic 411, 3) := by decide +kernel
theorem dX16_fresh_195 : decode cX16_fresh 195 = .ok (.putfield 431, 3) := by decide +kernel
theorem dX16_fresh_198 : decode cX16_fresh 198 = .ok (.aload_n 1, 1) := by decide +kernel
theorem dX16_fresh_199 : decode cX16_fresh 199 = .ok (.iconst 0, 1) := by decide +kernel
theorem dX16_fresh_200 : decode cX16_fresh 200 = .ok (.putfield 469, 3) := by decide +kernel
theorem dX16_fresh_203 : decode cX16_fresh 203 = .ok (.aload_n 1, 1) := by decide +kernel
theorem dX16_fresh_204 : decode cX16_fresh 204 = .ok (.aload_n 0, 1) := by decide +kernel
theorem dX16_fresh_205 : decode cX16_fresh 205 = .ok (.getfield 134, 3) := by decide +kernel
theorem dX16_fresh_208 : decode cX16_fresh 208 = .ok (.putfield 523, 3) := by decide +kernel
theorem dX16_fresh_211 : decode cX16_fresh 211 = .ok (.aload_n 1, 1) := by decide +kernel
theorem dX16_fresh_212 : decode cX16_fresh 212 = .ok (.iconst 0, 1) := by decide +kernel
theorem dX16_fresh_213 : decode cX16_fresh 213 = .ok (.putfield 376, 3) := by decide +kernel
theorem dX16_fresh_216 : decode cX16_fresh 216 = .ok (.aload_n 1, 1) := by decide +kernel
theorem dX16_fresh_217 : decode cX16_fresh 217 = .ok (.getfield 428, 3) := by decide +kernel
theorem dX16_fresh_220 : decode cX16_fresh 220 = .ok (.aload_n 1, 1) := by decide +kernel
theorem dX16_fresh_221 : decode cX16_fresh 221 = .ok (.getfield 361, 3) := by decide +kernel
theorem dX16_fresh_224 : decode cX16_fresh 224 = .ok (.invokestatic 363, 3) := by decide +kernel
theorem dX16_fresh_227 : decode cX16_fresh 227 = .ok (.ifCond .eq 8, 3) := by decide +kernel
theorem dX16_fresh_230 : decode cX16_fresh 230 = .ok (.aload_n 0, 1) := by decide +kernel
theorem dX16_fresh_231 : decode cX16_fresh 231 = .ok (.aload_n 1, 1) := by decide +kernel
theorem dX16_fresh_232 : decode cX16_fresh 232 = .ok (.invokevirtual 379, 3) := by decide +kernel
theorem dX16_fresh_235 : decode cX16_fresh 235 = .ok (.return_, 1) := by decide +kernel
theorem wX16_fresh_L198 {x : GX} {n0 sl0 : Nat} (X : Cx x cX16_fresh RX16 none n0 sl0 2 41) {out : Mm} (hE : Ends x n0 sl0 none out) (hn : xn x = 4) (fu : Nat)   (a0 : Nat) (a1 : Option Nat)  (M : Mm) (h : fX16_fresh_L198 fu  a0 a1 M = some out) : Gw x M 198 [(0, pR (some a0)), (1, pR a1)] [] := by
  unfold fX16_fresh_L198 at h
  refine g_aload_n X (pc := 198) 1 rfl rfl dX16_fresh_198 ?_
  refine g_iconst X (pc := 199) (v := 0) dX16_fresh_199 (by decide) ?_
  obtain ⟨M1, eM1, h⟩ := bd h
  refine g_putI X (pc := 200) fk_12_24 rfl rfl rfl eM1 tb_1604 (Or.inl rfl) dX16_fresh_200 ?_
  refine g_aload_n X (pc := 203) 1 rfl rfl dX16_fresh_203 ?_
  refine g_aload_n X (pc := 204) 0 rfl rfl dX16_fresh_204 ?_
  obtain ⟨v2, ev2, h⟩ := bd h
  refine g_getI X (pc := 205) fk_16_10 rfl rfl ev2 tb_1824 dX16_fresh_205 ?_
  obtain ⟨M3, eM3, h⟩ := bd h
  refine g_putI X (pc := 208) fk_12_44 rfl rfl rfl eM3 tb_1634 (Or.inl rfl) dX16_fresh_208 ?_
  refine g_aload_n X (pc := 211) 1 rfl rfl dX16_fresh_211 ?_
  refine g_iconst X (pc := 212) (v := 0) dX16_fresh_212 (by decide) ?_
  obtain ⟨M4, eM4, h⟩ := bd h
  refine g_putZ X (pc := 213) fk_12_21 rfl rfl rfl eM4 tb_1601 (Or.inl rfl) dX16_fresh_213 ?_
  refine g_aload_n X (pc := 216) 1 rfl rfl dX16_fresh_216 ?_
  obtain ⟨v5, ev5, h⟩ := bd h
  refine g_getI X (pc := 217) fk_12_4 rfl rfl ev5 tb_1584 dX16_fresh_217 ?_
  refine g_aload_n X (pc := 220) 1 rfl rfl dX16_fresh_220 ?_
  obtain ⟨v6, ev6, h⟩ := bd h
  refine g_getI X (pc := 221) fk_12_6 rfl rfl ev6 tb_1586 dX16_fresh_221 ?_
  obtain ⟨v8, M7, eM7, h⟩ := b2d h
  refine g_callS X (pc := 224) (M' := M7) (ro := some (pI v8)) (as := [pI v5, pI v6]) (as' := [pI v6, pI v5]) (st := []) (ctX16_before _ _ _ _ _ _ fu  v5 v6 M4 _ eM7) tb_2170 tb_2168 tb_2169 tb_8 hyX16_before rfl rfl ⟨by decide, by decide⟩ (Nat.le_of_ble_eq_true rfl) dX16_fresh_224 ?_
  refine g_if_eq X (pc := 227) (tgt := 235) dX16_fresh_227 (by decide) (fun hc => ?_) (fun hc => ?_)
  · have h := (if_pos hc).symm.trans h
    obtain rfl := Option.some.inj h
    exact g_return X hE dX16_fresh_235
  · have h := (if_neg hc).symm.trans h
    refine g_aload_n X (pc := 230) 0 rfl rfl dX16_fresh_230 ?_
    refine g_aload_n X (pc := 231) 1 rfl rfl dX16_fresh_231 ?_
    obtain ⟨q9, eq9, h⟩ := bd h
    obtain ⟨M10, eM10, h⟩ := bd h
    refine g_callV X (pc := 232) (M' := M10) (ro := none) (c := 16) rfl (by decide) (as := [pR a1]) (as' := [pR a1]) (st := []) eq9 (ctX16_timerSet _ _ _ _ _ _ fu q9 a1 M7 _ eM10) tb_2174 tb_2171 tb_2173 ts_86 tb_8 ⟨rfl, hyX16_timerSet⟩ rfl rfl ⟨by decide, by decide⟩ (Nat.le_of_ble_eq_true rfl) dX16_fresh_232 ?_
    obtain rfl := Option.some.inj h
    exact g_return X hE dX16_fresh_235
theorem wX16_fresh_L182 {x : GX} {n0 sl0 : Nat} (X : Cx x cX16_fresh RX16 none n0 sl0 2 41) {out : Mm} (hE : Ends x n0 sl0 none out) (hn : xn x = 4) (fu : Nat)   (a0 : Nat) (a1 : Option Nat) (s0 : Int32) (M : Mm) (h : fX16_fresh_L182 fu  a0 a1 s0 M = some out) : Gw x M 182 [(0, pR (some a0)), (1, pR a1)] [pI s0] := by
  unfold fX16_fresh_L182 at h
  refine g_istore_n X (pc := 182) [(3, pI s0), (0, pR (some a0)), (1, pR a1)] rfl (lt_n hn (by decide)) rfl dX16_fresh_182 ?_
  refine g_aload_n X (pc := 183) 2 rfl rfl dX16_fresh_183 ?_
  refine g_ldc X (pc := 184) tb_1565 dX16_fresh_184 ?_
  refine g_aload_n X (pc := 186) 2 rfl rfl dX16_fresh_186 ?_
  obtain ⟨v1, ev1, h⟩ := bd h
  refine g_getI X (pc := 187) fk_12_11 rfl rfl ev1 tb_1591 dX16_fresh_187 ?_
  refine g_iload_n X (pc := 190) 0 rfl rfl dX16_fresh_190 ?_
  refine g_iadd X (pc := 191) dX16_fresh_191 ?_
  refine g_mmin X (pc := 192) tb_2155 tb_348 tb_13 tb_349 ⟨by decide, Nat.le_of_ble_eq_true rfl⟩ dX16_fresh_192 ?_
  obtain ⟨M2, eM2, h⟩ := bd h
  refine g_putI X (pc := 195) fk_12_11 rfl rfl rfl eM2 tb_1591 (Or.inl rfl) dX16_fresh_195 ?_
  refine g_sub [1, 2] [(0, pR (some a0)), (1, pR a1)] rfl ?_
  exact wX16_fresh_L198 X hE hn fu   a0 a1 M2 h
theorem wX16_fresh_L111 {x : GX} {n0 sl0 : Nat} (X : Cx x cX16_fresh RX16 none n0 sl0 2 41) {out : Mm} (hE : Ends x n0 sl0 none out) (hn : xn x = 4) (fu : Nat)   (a0 : Nat) (a1 : Option Nat) (a2 : Int32)  (M : Mm) (h : fX16_fresh_L111 fu  a0 a1 a2 M = some out) : Gw x M 111 [(0, pR (some a0)), (1, pR a1), (2, pI a2)] [] := by
  unfold fX16_fresh_L111 at h
  refine g_aload_n X (pc := 111) 1 rfl rfl dX16_fresh_111 ?_
  obtain ⟨v1, ev1, h⟩ := bd h
  refine g_getI X (pc := 112) fk_12_18 rfl rfl ev1 tb_1598 dX16_fresh_112 ?_
  refine g_if_eq X (pc := 115) (tgt := 134) dX16_fresh_115 (by decide) (fun hc => ?_) (fun hc => ?_)
  · have h := (if_pos hc).symm.trans h
    refine g_aload_n X (pc := 134) 1 rfl rfl dX16_fresh_134 ?_
    obtain ⟨v2, ev2, h⟩ := bd h
    refine g_getI X (pc := 135) fk_12_0 rfl rfl ev2 tb_1580 dX16_fresh_135 ?_
    refine g_iconst X (pc := 138) (v := 1) dX16_fresh_138 (by decide) ?_
    refine g_icmp_eq X (pc := 139) (tgt := 198) dX16_fresh_139 (by decide) (fun hc => ?_) (fun hc => ?_)
    · have h := (if_pos hc).symm.trans h
      refine g_sub [0, 1] [(0, pR (some a0)), (1, pR a1)] rfl ?_
      exact wX16_fresh_L198 X hE hn fu   a0 a1 M h
    · have h := (if_neg hc).symm.trans h
      refine g_aload_n X (pc := 142) 1 rfl rfl dX16_fresh_142 ?_
      obtain ⟨v3, ev3, h⟩ := bd h
      refine g_getI X (pc := 143) fk_12_11 rfl rfl ev3 tb_1591 dX16_fresh_143 ?_
      refine g_aload_n X (pc := 146) 1 rfl rfl dX16_fresh_146 ?_
      obtain ⟨v4, ev4, h⟩ := bd h
      refine g_getI X (pc := 147) fk_12_12 rfl rfl ev4 tb_1592 dX16_fresh_147 ?_
      refine g_icmp_ge X (pc := 150) (tgt := 164) dX16_fresh_150 (by decide) (fun hc => ?_) (fun hc => ?_)
      · have h := (if_pos hc).symm.trans h
        refine g_iconst X (pc := 164) (v := 1) dX16_fresh_164 (by decide) ?_
        refine g_aload_n X (pc := 165) 1 rfl rfl dX16_fresh_165 ?_
        obtain ⟨v5, ev5, h⟩ := bd h
        refine g_getI X (pc := 166) fk_12_10 rfl rfl ev5 tb_1590 dX16_fresh_166 ?_
        refine g_aload_n X (pc := 169) 1 rfl rfl dX16_fresh_169 ?_
        obtain ⟨v6, ev6, h⟩ := bd h
        refine g_getI X (pc := 170) fk_12_10 rfl rfl ev6 tb_1590 dX16_fresh_170 ?_
        refine g_imul X (pc := 173) dX16_fresh_173 ?_
        refine g_aload_n X (pc := 174) 1 rfl rfl dX16_fresh_174 ?_
        obtain ⟨v7, ev7, h⟩ := bd h
        refine g_getI X (pc := 175) fk_12_11 rfl rfl ev7 tb_1591 dX16_fresh_175 ?_
        by_cases hz : v7 = 0
        · rw [if_pos hz] at h; cases h
        have h := (if_neg hz).symm.trans h
        refine g_idiv X (pc := 178) hz dX16_fresh_178 ?_
        refine g_mmax X (pc := 179) tb_2100 tb_405 tb_13 tb_406 ⟨by decide, Nat.le_of_ble_eq_true rfl⟩ dX16_fresh_179 ?_
        refine g_sub [0, 1] [(0, pR (some a0)), (1, pR a1)] rfl ?_
        exact wX16_fresh_L182 X hE hn fu   a0 a1 (jmax (1 : Int32) ((v5 * v6) / v7)) M h
      · have h := (if_neg hc).symm.trans h
        refine g_iload_n X (pc := 153) 2 rfl rfl dX16_fresh_153 ?_
        refine g_aload_n X (pc := 154) 1 rfl rfl dX16_fresh_154 ?_
        obtain ⟨v8, ev8, h⟩ := bd h
        refine g_getI X (pc := 155) fk_12_10 rfl rfl ev8 tb_1590 dX16_fresh_155 ?_
        refine g_mmin X (pc := 158) tb_2155 tb_348 tb_13 tb_349 ⟨by decide, Nat.le_of_ble_eq_true rfl⟩ dX16_fresh_158 ?_
        refine g_goto X (pc := 161) (tgt := 182) dX16_fresh_161 (by decide) ?_
        refine g_sub [0, 1] [(0, pR (some a0)), (1, pR a1)] rfl ?_
        exact wX16_fresh_L182 X hE hn fu   a0 a1 (jmin a2 v8) M h
  · have h := (if_neg hc).symm.trans h
    refine g_aload_n X (pc := 118) 1 rfl rfl dX16_fresh_118 ?_
    refine g_iconst X (pc := 119) (v := 0) dX16_fresh_119 (by decide) ?_
    obtain ⟨M9, eM9, h⟩ := bd h
    refine g_putZ X (pc := 120) fk_12_18 rfl rfl rfl eM9 tb_1598 (Or.inl rfl) dX16_fresh_120 ?_
    refine g_aload_n X (pc := 123) 1 rfl rfl dX16_fresh_123 ?_
    refine g_aload_n X (pc := 124) 1 rfl rfl dX16_fresh_124 ?_
    obtain ⟨v10, ev10, h⟩ := bd h
    refine g_getI X (pc := 125) fk_12_12 rfl rfl ev10 tb_1592 dX16_fresh_125 ?_
    obtain ⟨M11, eM11, h⟩ := bd h
    refine g_putI X (pc := 128) fk_12_11 rfl rfl rfl eM11 tb_1591 (Or.inl rfl) dX16_fresh_128 ?_
    refine g_goto X (pc := 131) (tgt := 198) dX16_fresh_131 (by decide) ?_
    refine g_sub [0, 1] [(0, pR (some a0)), (1, pR a1)] rfl ?_
    exact wX16_fresh_L198 X hE hn fu   a0 a1 M11 h
theorem wX16_fresh_L67 {x : GX} {n0 sl0 : Nat} (X : Cx x cX16_fresh RX16 none n0 sl0 2 41) {out : Mm} (hE : Ends x n0 sl0 none out) (hn : xn x = 4) (fu : Nat)   (a0 : Nat) (a1 : Option Nat) (a2 : Int32)  (M : Mm) (h : fX16_fresh_L67 fu  a0 a1 a2 M = some out) : Gw x M 67 [(0, pR (some a0)), (1, pR a1), (2, pI a2)] [] := by
  unfold fX16_fresh_L67 at h
  refine g_aload_n X (pc := 67) 1 rfl rfl dX16_fresh_67 ?_
  refine g_iconst X (pc := 68) (v := 0) dX16_fresh_68 (by decide) ?_
  obtain ⟨M1, eM1, h⟩ := bd h
  refine g_putI X (pc := 69) fk_12_23 rfl rfl rfl eM1 tb_1603 (Or.inl rfl) dX16_fresh_69 ?_
  refine g_aload_n X (pc := 72) 1 rfl rfl dX16_fresh_72 ?_
  obtain ⟨v2, ev2, h⟩ := bd h
  refine g_getI X (pc := 73) fk_12_17 rfl rfl ev2 tb_1597 dX16_fresh_73 ?_
  refine g_if_eq X (pc := 76) (tgt := 111) dX16_fresh_76 (by decide) (fun hc => ?_) (fun hc => ?_)
  · have h := (if_pos hc).symm.trans h
    exact wX16_fresh_L111 X hE hn fu   a0 a1 a2 M1 h
  · have h := (if_neg hc).symm.trans h
    refine g_aload_n X (pc := 79) 0 rfl rfl dX16_fresh_79 ?_
    obtain ⟨v3, ev3, h⟩ := bd h
    refine g_getI X (pc := 80) fk_16_35 rfl rfl ev3 tb_1849 dX16_fresh_80 ?_
    refine g_aload_n X (pc := 83) 1 rfl rfl dX16_fresh_83 ?_
    obtain ⟨v4, ev4, h⟩ := bd h
    refine g_getI X (pc := 84) fk_12_19 rfl rfl ev4 tb_1599 dX16_fresh_84 ?_
    obtain ⟨v6, M5, eM5, h⟩ := b2d h
    refine g_callS X (pc := 87) (M' := M5) (ro := some (pI v6)) (as := [pI v3, pI v4]) (as' := [pI v4, pI v3]) (st := []) (ctX16_isBehind _ _ _ _ _ _ fu  v3 v4 M1 _ eM5) tb_2289 tb_2287 tb_2288 tb_8 hyX16_isBehind rfl rfl ⟨by decide, by decide⟩ (Nat.le_of_ble_eq_true rfl) dX16_fresh_87 ?_
    refine g_if_eq X (pc := 90) (tgt := 111) dX16_fresh_90 (by decide) (fun hc => ?_) (fun hc => ?_)
    · have h := (if_pos hc).symm.trans h
      exact wX16_fresh_L111 X hE hn fu   a0 a1 a2 M5 h
    · have h := (if_neg hc).symm.trans h
      refine g_aload_n X (pc := 93) 1 rfl rfl dX16_fresh_93 ?_
      refine g_iconst X (pc := 94) (v := 0) dX16_fresh_94 (by decide) ?_
      obtain ⟨M7, eM7, h⟩ := bd h
      refine g_putZ X (pc := 95) fk_12_17 rfl rfl rfl eM7 tb_1597 (Or.inl rfl) dX16_fresh_95 ?_
      refine g_aload_n X (pc := 98) 1 rfl rfl dX16_fresh_98 ?_
      refine g_aload_n X (pc := 99) 0 rfl rfl dX16_fresh_99 ?_
      obtain ⟨v8, ev8, h⟩ := bd h
      refine g_getI X (pc := 100) fk_16_10 rfl rfl ev8 tb_1824 dX16_fresh_100 ?_
      refine g_aload_n X (pc := 103) 1 rfl rfl dX16_fresh_103 ?_
      obtain ⟨v9, ev9, h⟩ := bd h
      refine g_getI X (pc := 104) fk_12_20 rfl rfl ev9 tb_1600 dX16_fresh_104 ?_
      refine g_isub X (pc := 107) dX16_fresh_107 ?_
      obtain ⟨M10, eM10, h⟩ := bd h
      refine g_callS X (pc := 108) (M' := M10) (ro := none) (as := [pR a1, pI (v8 - v9)]) (as' := [pI (v8 - v9), pR a1]) (st := []) (ctX16_measure _ _ _ _ _ _ fu  a1 (v8 - v9) M7 _ eM10) tb_2292 tb_2290 tb_2291 tb_8 hyX16_measure rfl rfl ⟨by decide, by decide⟩ (Nat.le_of_ble_eq_true rfl) dX16_fresh_108 ?_
      exact wX16_fresh_L111 X hE hn fu   a0 a1 a2 M10 h
theorem wX16_fresh {x : GX} {n0 sl0 : Nat} (X : Cx x cX16_fresh RX16 none n0 sl0 2 41) {out : Mm} (hE : Ends x n0 sl0 none out) (hn : xn x = 4) (fu : Nat)   (a0 : Nat) (a1 : Option Nat)  (M : Mm) (h : fX16_fresh fu  a0 a1 M = some out) : Gw x M 0 [(0, pR (some a0)), (1, pR a1)] [] := by
  unfold fX16_fresh at h
  refine g_aload_n X (pc := 0) 0 rfl rfl dX16_fresh_0 ?_
  obtain ⟨v1, ev1, h⟩ := bd h
  refine g_getI X (pc := 1) fk_16_35 rfl rfl ev1 tb_1849 dX16_fresh_1 ?_
  refine g_aload_n X (pc := 4) 1 rfl rfl dX16_fresh_4 ?_
  obtain ⟨v2, ev2, h⟩ := bd h
  refine g_getI X (pc := 5) fk_12_4 rfl rfl ev2 tb_1584 dX16_fresh_5 ?_
  refine g_isub X (pc := 8) dX16_fresh_8 ?_
  refine g_istore_n X (pc := 9) [(2, pI (v1 - v2)), (0, pR (some a0)), (1, pR a1)] rfl (lt_n hn (by decide)) rfl dX16_fresh_9 ?_
  refine g_aload_n X (pc := 10) 1 rfl rfl dX16_fresh_10 ?_
  obtain ⟨v3, ev3, h⟩ := bd h
  refine g_getR X (pc := 11) fk_16_17 rfl rfl ev3 tb_1831 dX16_fresh_11 ?_
  refine g_bipush X (pc := 14) (v := 6) dX16_fresh_14 (by decide) ?_
  refine g_dup2 X (pc := 16) rfl rfl dX16_fresh_16 ?_
  obtain ⟨v4, ev4, h⟩ := bd h
  refine g_iaload X (pc := 17) ev4 dX16_fresh_17 ?_
  refine g_iconst X (pc := 18) (v := 1) dX16_fresh_18 (by decide) ?_
  refine g_iadd X (pc := 19) dX16_fresh_19 ?_
  obtain ⟨M5, eM5, h⟩ := bd h
  refine g_iastore X (pc := 20) eM5 dX16_fresh_20 ?_
  refine g_aload_n X (pc := 21) 1 rfl rfl dX16_fresh_21 ?_
  obtain ⟨v6, ev6, h⟩ := bd h
  refine g_getR X (pc := 22) fk_16_17 rfl rfl ev6 tb_1831 dX16_fresh_22 ?_
  refine g_bipush X (pc := 25) (v := 7) dX16_fresh_25 (by decide) ?_
  refine g_aload_n X (pc := 27) 1 rfl rfl dX16_fresh_27 ?_
  obtain ⟨v7, ev7, h⟩ := bd h
  refine g_getR X (pc := 28) fk_16_17 rfl rfl ev7 tb_1831 dX16_fresh_28 ?_
  refine g_bipush X (pc := 31) (v := 7) dX16_fresh_31 (by decide) ?_
  obtain ⟨v8, ev8, h⟩ := bd h
  refine g_iaload X (pc := 33) ev8 dX16_fresh_33 ?_
  refine g_iload_n X (pc := 34) 0 rfl rfl dX16_fresh_34 ?_
  refine g_iadd X (pc := 35) dX16_fresh_35 ?_
  obtain ⟨M9, eM9, h⟩ := bd h
  refine g_iastore X (pc := 36) eM9 dX16_fresh_36 ?_
  refine g_aload_n X (pc := 37) 2 rfl rfl dX16_fresh_37 ?_
  refine g_aload_n X (pc := 38) 1 rfl rfl dX16_fresh_38 ?_
  obtain ⟨v10, ev10, h⟩ := bd h
  refine g_getI X (pc := 39) fk_16_35 rfl rfl ev10 tb_1849 dX16_fresh_39 ?_
  obtain ⟨M11, eM11, h⟩ := bd h
  refine g_putI X (pc := 42) fk_12_4 rfl rfl rfl eM11 tb_1584 (Or.inl rfl) dX16_fresh_42 ?_
  refine g_aload_n X (pc := 45) 2 rfl rfl dX16_fresh_45 ?_
  obtain ⟨v12, ev12, h⟩ := bd h
  refine g_getI X (pc := 46) fk_12_5 rfl rfl ev12 tb_1585 dX16_fresh_46 ?_
  refine g_aload_n X (pc := 49) 2 rfl rfl dX16_fresh_49 ?_
  obtain ⟨v13, ev13, h⟩ := bd h
  refine g_getI X (pc := 50) fk_12_4 rfl rfl ev13 tb_1584 dX16_fresh_50 ?_
  obtain ⟨v15, M14, eM14, h⟩ := b2d h
  refine g_callS X (pc := 53) (M' := M14) (ro := some (pI v15)) (as := [pI v12, pI v13]) (as' := [pI v13, pI v12]) (st := []) (ctX16_before _ _ _ _ _ _ fu  v12 v13 M11 _ eM14) tb_2170 tb_2168 tb_2169 tb_8 hyX16_before rfl rfl ⟨by decide, by decide⟩ (Nat.le_of_ble_eq_true rfl) dX16_fresh_53 ?_
  refine g_if_eq X (pc := 56) (tgt := 67) dX16_fresh_56 (by decide) (fun hc => ?_) (fun hc => ?_)
  · have h := (if_pos hc).symm.trans h
    refine g_sub [1, 2, 0] [(0, pR (some a0)), (1, pR a1), (2, pI (v1 - v2))] rfl ?_
    exact wX16_fresh_L67 X hE hn fu   a0 a1 (v1 - v2) M14 h
  · have h := (if_neg hc).symm.trans h
    refine g_aload_n X (pc := 59) 2 rfl rfl dX16_fresh_59 ?_
    refine g_aload_n X (pc := 60) 2 rfl rfl dX16_fresh_60 ?_
    obtain ⟨v16, ev16, h⟩ := bd h
    refine g_getI X (pc := 61) fk_12_4 rfl rfl ev16 tb_1584 dX16_fresh_61 ?_
    obtain ⟨M17, eM17, h⟩ := bd h
    refine g_putI X (pc := 64) fk_12_5 rfl rfl rfl eM17 tb_1585 (Or.inl rfl) dX16_fresh_64 ?_
    refine g_sub [1, 2, 0] [(0, pR (some a0)), (1, pR a1), (2, pI (v1 - v2))] rfl ?_
    exact wX16_fresh_L67 X hE hn fu   a0 a1 (v1 - v2) M17 h
theorem hyX16_fresh : yX16_fresh.cls ≠ "java/lang/invoke/MethodHandle" ∧ yX16_fresh.cls ≠ "java/lang/invoke/VarHandle" ∧ (parseMethodDescriptor yX16_fresh.desc).map (fun d => d.parameters.length) = some 1 := ⟨by decide +kernel, by decide +kernel, by decide +kernel⟩
theorem ctX16_fresh (l : Launch) (E : Nat → Nat) (D : va_G) (dA : Nat → ClassId) (lo : Nat) (H0 : Heap) (fu : Nat) (a0 : Nat) (a1 : Option Nat) (M : Mm) (out : Mm) (h : fX16_fresh fu a0 a1 M = some out) : Ct l E D dA lo H0 yX16_fresh cX16_fresh 4 none 2 41 [pR (some a0), pR a1] M none out := by
  refine ct_of (by decide +kernel) (Nat.le_of_ble_eq_true rfl) ?_
  intro x hl he hd ha ho hh hn hin X hE
  exact wX16_fresh X hE hn fu a0 a1 M h
/-! WebHostModel.takeWindow(LWebHostModel$Connection;)V -/
def fX16_takeWindow (fu : Nat)  (a0 : Nat) (a1 : Option Nat)  (M : Mm) : Option (Mm) :=
    (gI M 16 1061 (some a0)).bind fun v1 =>
    (pF M 12 775 a1 v1).bind fun M2 =>
    (gI M2 16 1058 (some a0)).bind fun v3 =>
    (pF M2 12 776 a1 v3).bind fun M4 =>
    (gI M4 16 1059 (some a0)).bind fun v5 =>
    (pF M4 12 777 a1 v5).bind fun M6 =>
    some M6
theorem dX16_takeWindow_0 : decode cX16_takeWindow 0 = .ok (.aload_n 1, 1) := by decide +kernel
theorem dX16_takeWindow_1 : decode cX16_takeWindow 1 = .ok (.aload_n 0, 1) := by decide +kernel
theorem dX16_takeWindow_2 : decode cX16_takeWindow 2 = .ok (.getfield 305, 3) := by decide +kernel
theorem dX16_takeWindow_5 : decode cX16_takeWindow 5 = .ok (.putfield 434, 3) := by decide +kernel
theorem dX16_takeWindow_8 : decode cX16_takeWindow 8 = .ok (.aload_n 1, 1) := by decide +kernel
theorem dX16_takeWindow_9 : decode cX16_takeWindow 9 = .ok (.aload_n 0, 1) := by decide +kernel
theorem dX16_takeWindow_10 : decode cX16_takeWindow 10 = .ok (.getfield 298, 3) := by decide +kernel
theorem dX16_takeWindow_13 : decode cX16_takeWindow 13 = .ok (.putfield 448, 3) := by decide +kernel
theorem dX16_takeWindow_16 : decode cX16_takeWindow 16 = .ok (.aload_n 1, 1) := by decide +kernel
theorem dX16_takeWindow_17 : decode cX16_takeWindow 17 = .ok (.aload_n 0, 1) := by decide +kernel
theorem dX16_takeWindow_18 : decode cX16_takeWindow 18 = .ok (.getfield 299, 3) := by decide +kernel
theorem dX16_takeWindow_21 : decode cX16_takeWindow 21 = .ok (.putfield 451, 3) := by decide +kernel
theorem dX16_takeWindow_24 : decode cX16_takeWindow 24 = .ok (.return_, 1) := by decide +kernel
theorem wX16_takeWindow {x : GX} {n0 sl0 : Nat} (X : Cx x cX16_takeWindow RX16 none n0 sl0 0 0) {out : Mm} (hE : Ends x n0 sl0 none out) (hn : xn x = 2) (fu : Nat)   (a0 : Nat) (a1 : Option Nat)  (M : Mm) (h : fX16_takeWindow fu  a0 a1 M = some out) : Gw x M 0 [(0, pR (some a0)), (1, pR a1)] [] := by
  unfold fX16_takeWindow at h
  refine g_aload_n X (pc := 0) 1 rfl rfl dX16_takeWindow_0 ?_
  refine g_aload_n X (pc := 1) 0 rfl rfl dX16_takeWindow_1 ?_
  obtain ⟨v1, ev1, h⟩ := bd h
  refine g_getI X (pc := 2) fk_16_37 rfl rfl ev1 tb_1851 dX16_takeWindow_2 ?_
  obtain ⟨M2, eM2, h⟩ := bd h
  refine g_putI X (pc := 5) fk_12_7 rfl rfl rfl eM2 tb_1587 (Or.inl rfl) dX16_takeWindow_5 ?_
  refine g_aload_n X (pc := 8) 1 rfl rfl dX16_takeWindow_8 ?_
  refine g_aload_n X (pc := 9) 0 rfl rfl dX16_takeWindow_9 ?_
  obtain ⟨v3, ev3, h⟩ := bd h
  refine g_getI X (pc := 10) fk_16_34 rfl rfl ev3 tb_1848 dX16_takeWindow_10 ?_
  obtain ⟨M4, eM4, h⟩ := bd h
  refine g_putI X (pc := 13) fk_12_8 rfl rfl rfl eM4 tb_1588 (Or.inl rfl) dX16_takeWindow_13 ?_
  refine g_aload_n X (pc := 16) 1 rfl rfl dX16_takeWindow_16 ?_
  refine g_aload_n X (pc := 17) 0 rfl rfl dX16_takeWindow_17 ?_
  obtain ⟨v5, ev5, h⟩ := bd h
  refine g_getI X (pc := 18) fk_16_35 rfl rfl ev5 tb_1849 dX16_takeWindow_18 ?_
  obtain ⟨M6, eM6, h⟩ := bd h
  refine g_putI X (pc := 21) fk_12_9 rfl rfl rfl eM6 tb_1589 (Or.inl rfl) dX16_takeWindow_21 ?_
  obtain rfl := Option.some.inj h
  exact g_return X hE dX16_takeWindow_24
theorem hyX16_takeWindow : yX16_takeWindow.cls ≠ "java/lang/invoke/MethodHandle" ∧ yX16_takeWindow.cls ≠ "java/lang/invoke/VarHandle" ∧ (parseMethodDescriptor yX16_takeWindow.desc).map (fun d => d.parameters.length) = some 1 := ⟨by decide +kernel, by decide +kernel, by decide +kernel⟩
theorem ctX16_takeWindow (l : Launch) (E : Nat → Nat) (D : va_G) (dA : Nat → ClassId) (lo : Nat) (H0 : Heap) (fu : Nat) (a0 : Nat) (a1 : Option Nat) (M : Mm) (out : Mm) (h : fX16_takeWindow fu a0 a1 M = some out) : Ct l E D dA lo H0 yX16_takeWindow cX16_takeWindow 2 none 0 0 [pR (some a0), pR a1] M none out := by
  refine ct_of (by decide +kernel) (Nat.le_of_ble_eq_true rfl) ?_
  intro x hl he hd ha ho hh hn hin X hE
  exact wX16_takeWindow X hE hn fu a0 a1 M h
/-! WebHostModel.toSend(LWebHostModel$Connection;I)B -/
def fX16_toSend (fu : Nat)  (a0 : Nat) (a1 : Option Nat) (a2 : Int32)  (M : Mm) : Option (Int32 × Mm) :=
    (gI M 12 797 a1).bind fun v1 =>
    (gI M 12 794 a1).bind fun v2 =>
    if v2 ≤ (a2 - v1) then (
    (gR M 16 1026 (some a0)).bind fun v3 =>
    (gI M 12 795 a1).bind fun v4 =>
    (gI M 12 794 a1).bind fun v5 =>
    (gA M 100 v3 ((v4 + (a2 - v1)) - v5)).bind fun v6 =>
    rN .byte v6 M)
    else (
    (gR M 12 793 a1).bind fun v7 =>
    (gA M 100 v7 (a2 - v1)).bind fun v8 =>
    rN .byte v8 M)
theorem dX16_toSend_0 : decode cX16_toSend 0 = .ok (.iload_n 2, 1) := by decide +kernel
theorem dX16_toSend_1 : decode cX16_toSend 1 = .ok (.aload_n 1, 1) := by decide +kernel
theorem dX16_toSend_2 : decode cX16_toSend 2 = .ok (.getfield 388, 3) := by decide +kernel
theorem dX16_toSend_5 : decode cX16_toSend 5 = .ok (.isub, 1) := by decide +kernel
theorem dX16_toSend_6 : decode cX16_toSend 6 = .ok (.istore_n 3, 1) := by decide +kernel
theorem dX16_toSend_7 : decode cX16_toSend 7 = .ok (.iload_n 3, 1) := by decide +kernel
theorem dX16_toSend_8 : decode cX16_toSend 8 = .ok (.aload_n 1, 1) := by decide +kernel
theorem dX16_toSend_9 : decode cX16_toSend 9 = .ok (.getfield 391, 3) := by decide +kernel
theorem dX16_toSend_12 : decode cX16_toSend 12 = .ok (.if_icmp .ge 12, 3) := by decide +kernel
theorem dX16_toSend_15 : decode cX16_toSend 15 = .ok (.aload_n 1, 1) := by decide +kernel
theorem dX16_toSend_16 : decode cX16_toSend 16 = .ok (.getfield 394, 3) := by decide +kernel
theorem dX16_toSend_19 : decode cX16_toSend 19 = .ok (.iload_n 3, 1) := by decide +kernel
theorem dX16_toSend_20 : decode cX16_toSend 20 = .ok (.baload, 1) := by decide +kernel
theorem dX16_toSend_21 : decode cX16_toSend 21 = .ok (.goto 19, 3) := by decide +kernel
theorem dX16_toSend_24 : decode cX16_toSend 24 = .ok (.aload_n 0, 1) := by decide +kernel
theorem dX16_toSend_25 : decode cX16_toSend 25 = .ok (.getfield 15, 3) := by decide +kernel
theorem dX16_toSend_28 : decode cX16_toSend 28 = .ok (.aload_n 1, 1) := by decide +kernel
theorem dX16_toSend_29 : decode cX16_toSend 29 = .ok (.getfield 395, 3) := by decide +kernel
theorem dX16_toSend_32 : decode cX16_toSend 32 = .ok (.iload_n 3, 1) := by decide +kernel
theorem dX16_toSend_33 : decode cX16_toSend 33 = .ok (.iadd, 1) := by decide +kernel
theorem dX16_toSend_34 : decode cX16_toSend 34 = .ok (.aload_n 1, 1) := by decide +kernel
theorem dX16_toSend_35 : decode cX16_toSend 35 = .ok (.getfield 391, 3) := by decide +kernel
theorem dX16_toSend_38 : decode cX16_toSend 38 = .ok (.isub, 1) := by decide +kernel
theorem dX16_toSend_39 : decode cX16_toSend 39 = .ok (.baload, 1) := by decide +kernel
theorem dX16_toSend_40 : decode cX16_toSend 40 = .ok (.ireturn, 1) := by decide +kernel
theorem wX16_toSend {x : GX} {n0 sl0 : Nat} (X : Cx x cX16_toSend RX16 (some .byte) n0 sl0 0 0) {out : Int32 × Mm} (hE : Ends x n0 sl0 (some (pI out.1)) out.2) (hn : xn x = 4) (fu : Nat)   (a0 : Nat) (a1 : Option Nat) (a2 : Int32)  (M : Mm) (h : fX16_toSend fu  a0 a1 a2 M = some out) : Gw x M 0 [(0, pR (some a0)), (1, pR a1), (2, pI a2)] [] := by
  unfold fX16_toSend at h
  refine g_iload_n X (pc := 0) 2 rfl rfl dX16_toSend_0 ?_
  refine g_aload_n X (pc := 1) 1 rfl rfl dX16_toSend_1 ?_
  obtain ⟨v1, ev1, h⟩ := bd h
  refine g_getI X (pc := 2) fk_12_29 rfl rfl ev1 tb_1613 dX16_toSend_2 ?_
  refine g_isub X (pc := 5) dX16_toSend_5 ?_
  refine g_istore_n X (pc := 6) [(3, pI (a2 - v1)), (0, pR (some a0)), (1, pR a1), (2, pI a2)] rfl (lt_n hn (by decide)) rfl dX16_toSend_6 ?_
  refine g_iload_n X (pc := 7) 0 rfl rfl dX16_toSend_7 ?_
  refine g_aload_n X (pc := 8) 2 rfl rfl dX16_toSend_8 ?_
  obtain ⟨v2, ev2, h⟩ := bd h
  refine g_getI X (pc := 9) fk_12_26 rfl rfl ev2 tb_1608 dX16_toSend_9 ?_
  refine g_icmp_ge X (pc := 12) (tgt := 24) dX16_toSend_12 (by decide) (fun hc => ?_) (fun hc => ?_)
  · have h := (if_pos hc).symm.trans h
    refine g_aload_n X (pc := 24) 1 rfl rfl dX16_toSend_24 ?_
    obtain ⟨v3, ev3, h⟩ := bd h
    refine g_getR X (pc := 25) fk_16_2 rfl rfl ev3 tb_1816 dX16_toSend_25 ?_
    refine g_aload_n X (pc := 28) 2 rfl rfl dX16_toSend_28 ?_
    obtain ⟨v4, ev4, h⟩ := bd h
    refine g_getI X (pc := 29) fk_12_27 rfl rfl ev4 tb_1609 dX16_toSend_29 ?_
    refine g_iload_n X (pc := 32) 0 rfl rfl dX16_toSend_32 ?_
    refine g_iadd X (pc := 33) dX16_toSend_33 ?_
    refine g_aload_n X (pc := 34) 2 rfl rfl dX16_toSend_34 ?_
    obtain ⟨v5, ev5, h⟩ := bd h
    refine g_getI X (pc := 35) fk_12_26 rfl rfl ev5 tb_1608 dX16_toSend_35 ?_
    refine g_isub X (pc := 38) dX16_toSend_38 ?_
    obtain ⟨v6, ev6, h⟩ := bd h
    refine g_baload X (pc := 39) ev6 dX16_toSend_39 ?_
    obtain ⟨hz, rfl⟩ := rN_some h
    exact g_nreturn X rfl hz hE dX16_toSend_40
  · have h := (if_neg hc).symm.trans h
    refine g_aload_n X (pc := 15) 2 rfl rfl dX16_toSend_15 ?_
    obtain ⟨v7, ev7, h⟩ := bd h
    refine g_getR X (pc := 16) fk_12_25 rfl rfl ev7 tb_1606 dX16_toSend_16 ?_
    refine g_iload_n X (pc := 19) 0 rfl rfl dX16_toSend_19 ?_
    obtain ⟨v8, ev8, h⟩ := bd h
    refine g_baload X (pc := 20) ev8 dX16_toSend_20 ?_
    refine g_goto X (pc := 21) (tgt := 40) dX16_toSend_21 (by decide) ?_
    obtain ⟨hz, rfl⟩ := rN_some h
    exact g_nreturn X rfl hz hE dX16_toSend_40
theorem hyX16_toSend : yX16_toSend.cls ≠ "java/lang/invoke/MethodHandle" ∧ yX16_toSend.cls ≠ "java/lang/invoke/VarHandle" ∧ (parseMethodDescriptor yX16_toSend.desc).map (fun d => d.parameters.length) = some 2 := ⟨by decide +kernel, by decide +kernel, by decide +kernel⟩
theorem ctX16_toSend (l : Launch) (E : Nat → Nat) (D : va_G) (dA : Nat → ClassId) (lo : Nat) (H0 : Heap) (fu : Nat) (a0 : Nat) (a1 : Option Nat) (a2 : Int32) (M : Mm) (out : Int32 × Mm) (h : fX16_toSend fu a0 a1 a2 M = some out) : Ct l E D dA lo H0 yX16_toSend cX16_toSend 4 (some .byte) 0 0 [pR (some a0), pR a1, pI a2] M (some (pI out.1)) out.2 := by
  refine ct_of (by decide +kernel) (Nat.le_of_ble_eq_true rfl) ?_
  intro x hl he hd ha ho hh hn hin X hE
  exact wX16_toSend X hE hn fu a0 a1 a2 M h
/-! WebHostModel.dataOut(LWebHostModel$Connection;IIZ)V -/
def fX16_dataOut_L113 (fu : Nat)  (a0 : Nat) (a1 : Option Nat) (a2 : Int32) (a3 : Int32) (a4 : Int32) (a5 : Int32)  (M : Mm) : Option (Mm) :=
    (gI M 12 769 a1).bind fun v1 =>
    (gI M 12 770 a1).bind fun v2 =>
    (gI M 12 804 a1).bind fun v3 =>
    (rc M 12 a1).bind fun q4 =>
    b2 (fX12_open fu q4  M) fun v6 M5 =>
    (rc M5 16 (some a0)).bind fun q7 =>
    (fX16_segmentOut fu q7 v1 (80 : Int32) v2 a2 v3 a5 v6 (0 : Int32) a3 M5).bind fun M8 =>
    (rc M8 16 (some a0)).bind fun q9 =>
    (fX16_pays fu q9 a1 M8).bind fun M10 =>
    (rc M10 16 (some a0)).bind fun q11 =>
    (fX16_noted fu q11 a1 a2 M10).bind fun M12 =>
    if a4 = 0 then (
    some M12)
    else (
    (gI M12 12 799 a1).bind fun v13 =>
    if v13 = 0 then (
    (pZ M12 12 799 a1 (1 : Int32)).bind fun M14 =>
    (gI M14 12 768 a1).bind fun v15 =>
    if v15 = (2 : Int32) then (
    (pF M14 12 768 a1 (3 : Int32)).bind fun M17 =>
    some M17)
    else (
    (pF M14 12 768 a1 (8 : Int32)).bind fun M16 =>
    some M16))
    else (
    some M12))
def fX16_dataOut_L103 (fu : Nat)  (a0 : Nat) (a1 : Option Nat) (a2 : Int32) (a3 : Int32) (a4 : Int32) (a5 : Int32)  (M : Mm) : Option (Mm) :=
    (gI M 16 1042 (some a0)).bind fun v1 =>
    (pF M 16 1042 (some a0) (v1 + (1 : Int32))).bind fun M2 =>
    fX16_dataOut_L113 fu  a0 a1 a2 a3 a4 a5 M2
def fX16_dataOut_L67 (fu : Nat)  (a0 : Nat) (a1 : Option Nat) (a2 : Int32) (a3 : Int32) (a4 : Int32) (s0 : Int32) (s1 : Int32) (M : Mm) : Option (Mm) :=
    (gI M 12 768 a1).bind fun v1 =>
    if v1 = (1 : Int32) then (
    fX16_dataOut_L103 fu  a0 a1 a2 a3 a4 (s0 ||| s1) M)
    else (
    (gI M 12 768 a1).bind fun v2 =>
    if v2 = (6 : Int32) then (
    fX16_dataOut_L103 fu  a0 a1 a2 a3 a4 (s0 ||| s1) M)
    else (
    (gI M 12 768 a1).bind fun v3 =>
    if v3 = (4 : Int32) then (
    fX16_dataOut_L103 fu  a0 a1 a2 a3 a4 (s0 ||| s1) M)
    else (
    (gI M 12 778 a1).bind fun v4 =>
    if a3 ≤ v4 then (
    fX16_dataOut_L113 fu  a0 a1 a2 a3 a4 (s0 ||| s1) M)
    else (
    fX16_dataOut_L103 fu  a0 a1 a2 a3 a4 (s0 ||| s1) M))))
def fX16_dataOut_L56 (fu : Nat)  (a0 : Nat) (a1 : Option Nat) (a2 : Int32) (a3 : Int32) (a4 : Int32) (s0 : Int32) (s1 : Int32) (M : Mm) : Option (Mm) :=
    if a4 = 0 then (
    fX16_dataOut_L67 fu  a0 a1 a2 a3 a4 (s0 ||| s1) (0 : Int32) M)
    else (
    fX16_dataOut_L67 fu  a0 a1 a2 a3 a4 (s0 ||| s1) (1 : Int32) M)
def fX16_dataOut_L55 (fu : Nat)  (a0 : Nat) (a1 : Option Nat) (a2 : Int32) (a3 : Int32) (a4 : Int32) (s0 : Int32) (M : Mm) : Option (Mm) :=
    fX16_dataOut_L56 fu  a0 a1 a2 a3 a4 s0 (0 : Int32) M
def fX16_dataOut_L3 (fu : Nat)  : Nat → Nat → Option Nat → Int32 → Int32 → Int32 → Int32 → Mm → Option (Mm)
  | 0, _, _, _, _, _, _, _ => none
  | n + 1, a0, a1, a2, a3, a4, a5, M =>
    if a3 ≤ a5 then (
    if a3 ≤ 0 then (
    fX16_dataOut_L55 fu  a0 a1 a2 a3 a4 (16 : Int32) M)
    else (
    (rc M 12 a1).bind fun q1 =>
    b2 (fX12_behind fu q1  M) fun v3 M2 =>
    if (a2 + a3) = v3 then (
    fX16_dataOut_L56 fu  a0 a1 a2 a3 a4 (16 : Int32) (8 : Int32) M2)
    else (
    fX16_dataOut_L55 fu  a0 a1 a2 a3 a4 (16 : Int32) M2)))
    else (
    (gR M 16 1043 (some a0)).bind fun v4 =>
    (rc M 16 (some a0)).bind fun q5 =>
    b2 (fX16_toSend fu q5 a1 (a2 + a5) M) fun v7 M6 =>
    (pA M6 100 v4 ((54 : Int32) + a5) (Int8.toInt32 (Int32.toInt8 v7))).bind fun M8 =>
    fX16_dataOut_L3 fu  n a0 a1 a2 a3 a4 (a5 + (1 : Int32)) M8)
def fX16_dataOut (fu : Nat)  (a0 : Nat) (a1 : Option Nat) (a2 : Int32) (a3 : Int32) (a4 : Int32)  (M : Mm) : Option (Mm) :=
    fX16_dataOut_L3 fu  fu a0 a1 a2 a3 a4 (0 : Int32) M
theorem dX16_dataOut_0 : decode cX16_dataOut 0 = .ok (.iconst 0, 1) := by decide +kernel
theorem dX16_dataOut_1 : decode cX16_dataOut 1 = .ok (.istore 5, 2) := by decide +kernel
theorem dX16_dataOut_3 : decode cX16_dataOut 3 = .ok (.iload 5, 2) := by decide +kernel
theorem dX16_dataOut_5 : decode cX16_dataOut 5 = .ok (.iload_n 3, 1) := by decide +kernel
theorem dX16_dataOut_6 : decode cX16_dataOut 6 = .ok (.if_icmp .ge 28, 3) := by decide +kernel
theorem dX16_dataOut_9 : decode cX16_dataOut 9 = .ok (.aload_n 0, 1) := by decide +kernel
theorem dX16_dataOut_10 : decode cX16_dataOut 10 = .ok (.getfield 34, 3) := by decide +kernel
theorem dX16_dataOut_13 : decode cX16_dataOut 13 = .ok (.bipush 54, 2) := by decide +kernel
theorem dX16_dataOut_15 : decode cX16_dataOut 15 = .ok (.iload 5, 2) := by decide +kernel
theorem dX16_dataOut_17 : decode cX16_dataOut 17 = .ok (.iadd, 1) := by decide +kernel
theorem dX16_dataOut_18 : decode cX16_dataOut 18 = .ok (.aload_n 0, 1) := by decide +kernel
theorem dX16_dataOut_19 : decode cX16_dataOut 19 = .ok (.aload_n 1, 1) := by decide +kernel
theorem dX16_dataOut_20 : decode cX16_dataOut 20 = .ok (.iload_n 2, 1) := by decide +kernel
theorem dX16_dataOut_21 : decode cX16_dataOut 21 = .ok (.iload 5, 2) := by decide +kernel
theorem dX16_dataOut_23 : decode cX16_dataOut 23 = .ok (.iadd, 1) := by decide +kernel
theorem dX16_dataOut_24 : decode cX16_dataOut 24 = .ok (.invokevirtual 398, 3) := by decide +kernel
theorem dX16_dataOut_27 : decode cX16_dataOut 27 = .ok (.bastore, 1) := by decide +kernel
theorem dX16_dataOut_28 : decode cX16_dataOut 28 = .ok (.iinc 5 1, 3) := by decide +kernel
theorem dX16_dataOut_31 : decode cX16_dataOut 31 = .ok (.goto (-28), 3) := by decide +kernel
theorem dX16_dataOut_34 : decode cX16_dataOut 34 = .ok (.bipush 16, 2) := by decide +kernel
theorem dX16_dataOut_36 : decode cX16_dataOut 36 = .ok (.iload_n 3, 1) := by decide +kernel
theorem dX16_dataOut_37 : decode cX16_dataOut 37 = .ok (.ifCond .le 18, 3) := by decide +kernel
theorem dX16_dataOut_40 : decode cX16_dataOut 40 = .ok (.iload_n 2, 1) := by decide +kernel
theorem dX16_dataOut_41 : decode cX16_dataOut 41 = .ok (.iload_n 3, 1) := by decide +kernel
theorem dX16_dataOut_42 : decode cX16_dataOut 42 = .ok (.iadd, 1) := by decide +kernel
theorem dX16_dataOut_43 : decode cX16_dataOut 43 = .ok (.aload_n 1, 1) := by decide +kernel
theorem dX16_dataOut_44 : decode cX16_dataOut 44 = .ok (.invokevirtual 402, 3) := by decide +kernel
theorem dX16_dataOut_47 : decode cX16_dataOut 47 = .ok (.if_icmp .ne 8, 3) := by decide +kernel
theorem dX16_dataOut_50 : decode cX16_dataOut 50 = .ok (.bipush 8, 2) := by decide +kernel
theorem dX16_dataOut_52 : decode cX16_dataOut 52 = .ok (.goto 4, 3) := by decide +kernel
theorem dX16_dataOut_55 : decode cX16_dataOut 55 = .ok (.iconst 0, 1) := by decide +kernel
theorem dX16_dataOut_56 : decode cX16_dataOut 56 = .ok (.ior, 1) := by decide +kernel
theorem dX16_dataOut_57 : decode cX16_dataOut 57 = .ok (.iload 4, 2) := by decide +kernel
theorem dX16_dataOut_59 : decode cX16_dataOut 59 = .ok (.ifCond .eq 7, 3) := by decide +kernel
theorem dX16_dataOut_62 : decode cX16_dataOut 62 = .ok (.iconst 1, 1) := by decide +kernel
theorem dX16_dataOut_63 : decode cX16_dataOut 63 = .ok (.goto 4, 3) := by decide +kernel
theorem dX16_dataOut_66 : decode cX16_dataOut 66 = .ok (.iconst 0, 1) := by decide +kernel
theorem dX16_dataOut_67 : decode cX16_dataOut 67 = .ok (.ior, 1) := by decide +kernel
theorem dX16_dataOut_68 : decode cX16_dataOut 68 = .ok (.istore 5, 2) := by decide +kernel
theorem dX16_dataOut_70 : decode cX16_dataOut 70 = .ok (.aload_n 1, 1) := by decide +kernel
theorem dX16_dataOut_71 : decode cX16_dataOut 71 = .ok (.getfield 152, 3) := by decide +kernel
theorem dX16_dataOut_74 : decode cX16_dataOut 74 = .ok (.iconst 1, 1) := by decide +kernel
theorem dX16_dataOut_75 : decode cX16_dataOut 75 = .ok (.if_icmp .eq 28, 3) := by decide +kernel
theorem dX16_dataOut_78 : decode cX16_dataOut 78 = .ok (.aload_n 1, 1) := by decide +kernel
theorem dX16_dataOut_79 : decode cX16_dataOut 79 = .ok (.getfield 152, 3) := by decide +kernel
theorem dX16_dataOut_82 : decode cX16_dataOut 82 = .ok (.bipush 6, 2) := by decide +kernel
theorem dX16_dataOut_84 : decode cX16_dataOut 84 = .ok (.if_icmp .eq 19, 3) := by decide +kernel
theorem dX16_dataOut_87 : decode cX16_dataOut 87 = .ok (.aload_n 1, 1) := by decide +kernel
theorem dX16_dataOut_88 : decode cX16_dataOut 88 = .ok (.getfield 152, 3) := by decide +kernel
theorem dX16_dataOut_91 : decode cX16_dataOut 91 = .ok (.iconst 4, 1) := by decide +kernel
theorem dX16_dataOut_92 : decode cX16_dataOut 92 = .ok (.if_icmp .eq 11, 3) := by decide +kernel
theorem dX16_dataOut_95 : decode cX16_dataOut 95 = .ok (.iload_n 3, 1) := by decide +kernel
theorem dX16_dataOut_96 : decode cX16_dataOut 96 = .ok (.aload_n 1, 1) := by decide +kernel
theorem dX16_dataOut_97 : decode cX16_dataOut 97 = .ok (.getfield 405, 3) := by decide +kernel
theorem dX16_dataOut_100 : decode cX16_dataOut 100 = .ok (.if_icmp .le 13, 3) := by decide +kernel
theorem dX16_dataOut_103 : decode cX16_dataOut 103 = .ok (.aload_n 0, 1) := by decide +kernel
theorem dX16_dataOut_104 : decode cX16_dataOut 104 = .ok (.dup, 1) := by decide +kernel
theorem dX16_dataOut_105 : decode cX16_dataOut 105 = .ok (.getfield 146, 3) := by decide +kernel
theorem dX16_dataOut_108 : decode cX16_dataOut 108 = .ok (.iconst 1, 1) := by decide +kernel
theorem dX16_dataOut_109 : decode cX16_dataOut 109 = .ok (.iadd, 1) := by decide +kernel
theorem dX16_dataOut_110 : decode cX16_dataOut 110 = .ok (.putfield 146, 3) := by decide +kernel
theorem dX16_dataOut_113 : decode cX16_dataOut 113 = .ok (.aload_n 0, 1) := by decide +kernel
theorem dX16_dataOut_114 : decode cX16_dataOut 114 = .ok (.aload_n 1, 1) := by decide +kernel
theorem dX16_dataOut_115 : decode cX16_dataOut 115 = .ok (.getfield 314, 3) := by decide +kernel
theorem dX16_dataOut_118 : decode cX16_dataOut 118 = .ok (.bipush 80, 2) := by decide +kernel
theorem dX16_dataOut_120 : decode cX16_dataOut 120 = .ok (.aload_n 1, 1) := by decide +kernel
theorem dX16_dataOut_121 : decode cX16_dataOut 121 = .ok (.getfield 315, 3) := by decide +kernel
theorem dX16_dataOut_124 : decode cX16_dataOut 124 = .ok (.iload_n 2, 1) := by decide +kernel
theorem dX16_dataOut_125 : decode cX16_dataOut 125 = .ok (.aload_n 1, 1) := by decide +kernel
theorem dX16_dataOut_126 : decode cX16_dataOut 126 = .ok (.getfield 348, 3) := by decide +kernel
theorem dX16_dataOut_129 : decode cX16_dataOut 129 = .ok (.iload 5, 2) := by decide +kernel
theorem dX16_dataOut_131 : decode cX16_dataOut 131 = .ok (.aload_n 1, 1) := by decide +kernel
theorem dX16_dataOut_132 : decode cX16_dataOut 132 = .ok (.invokevirtual 339, 3) := by decide +kernel
theorem dX16_dataOut_135 : decode cX16_dataOut 135 = .ok (.iconst 0, 1) := by decide +kernel
theorem dX16_dataOut_136 : decode cX16_dataOut 136 = .ok (.iload_n 3, 1) := by decide +kernel
theorem dX16_dataOut_137 : decode cX16_dataOut 137 = .ok (.invokevirtual 329, 3) := by decide +kernel
theorem dX16_dataOut_140 : decode cX16_dataOut 140 = .ok (.aload_n 0, 1) := by decide +kernel
theorem dX16_dataOut_141 : decode cX16_dataOut 141 = .ok (.aload_n 1, 1) := by decide +kernel
theorem dX16_dataOut_142 : decode cX16_dataOut 142 = .ok (.invokevirtual 351, 3) := by decide +kernel
theorem dX16_dataOut_145 : decode cX16_dataOut 145 = .ok (.aload_n 0, 1) := by decide +kernel
theorem dX16_dataOut_146 : decode cX16_dataOut 146 = .ok (.aload_n 1, 1) := by decide +kernel
theorem dX16_dataOut_147 : decode cX16_dataOut 147 = .ok (.iload_n 2, 1) := by decide +kernel
theorem dX16_dataOut_148 : decode cX16_dataOut 148 = .ok (.invokevirtual 357, 3) := by decide +kernel
theorem dX16_dataOut_151 : decode cX16_dataOut 151 = .ok (.iload 4, 2) := by decide +kernel
theorem dX16_dataOut_153 : decode cX16_dataOut 153 = .ok (.ifCond .eq 33, 3) := by decide +kernel
theorem dX16_dataOut_156 : decode cX16_dataOut 156 = .ok (.aload_n 1, 1) := by decide +kernel
theorem dX16_dataOut_157 : decode cX16_dataOut 157 = .ok (.getfield 408, 3) := by decide +kernel
theorem dX16_dataOut_160 : decode cX16_dataOut 160 = .ok (.ifCond .ne 26, 3) := by decide +kernel
theorem dX16_dataOut_163 : decode cX16_dataOut 163 = .ok (.aload_n 1, 1) := by decide +kernel
theorem dX16_dataOut_164 : decode cX16_dataOut 164 = .ok (.iconst 1, 1) := by decide +kernel
theorem dX16_dataOut_165 : decode cX16_dataOut 165 = .ok (.putfield 408, 3) := by decide +kernel
theorem dX16_dataOut_168 : decode cX16_dataOut 168 = .ok (.aload_n 1, 1) := by decide +kernel
theorem dX16_dataOut_169 : decode cX16_dataOut 169 = .ok (.aload_n 1, 1) := by decide +kernel
theorem dX16_dataOut_170 : decode cX16_dataOut 170 = .ok (.getfield 152, 3) := by decide +kernel
theorem dX16_dataOut_173 : decode cX16_dataOut 173 = .ok (.iconst 2, 1) := by decide +kernel
theorem dX16_dataOut_174 : decode cX16_dataOut 174 = .ok (.if_icmp .ne 7, 3) := by decide +kernel
theorem dX16_dataOut_177 : decode cX16_dataOut 177 = .ok (.iconst 3, 1) := by decide +kernel
theorem dX16_dataOut_178 : decode cX16_dataOut 178 = .ok (.goto 5, 3) := by decide +kernel
theorem dX16_dataOut_181 : decode cX16_dataOut 181 = .ok (.bipush 8, 2) := by decide +kernel
theorem dX16_dataOut_183 : decode cX16_dataOut 183 = .ok (.putfield 152, 3) := by decide +kernel
theorem dX16_dataOut_186 : decode cX16_dataOut 186 = .ok (.return_, 1) := by decide +kernel
theorem wX16_dataOut_L113 {x : GX} {n0 sl0 : Nat} (X : Cx x cX16_dataOut RX16 none n0 sl0 6 156) {out : Mm} (hE : Ends x n0 sl0 none out) (hn : xn x = 6) (fu : Nat)   (a0 : Nat) (a1 : Option Nat) (a2 : Int32) (a3 : Int32) (a4 : Int32) (a5 : Int32)  (M : Mm) (h : fX16_dataOut_L113 fu  a0 a1 a2 a3 a4 a5 M = some out) : Gw x M 113 [(0, pR (some a0)), (1, pR a1), (2, pI a2), (3, pI a3), (4, pI a4), (5, pI a5)] [] := by
  unfold fX16_dataOut_L113 at h
  refine g_aload_n X (pc := 113) 0 rfl rfl dX16_dataOut_113 ?_
  refine g_aload_n X (pc := 114) 1 rfl rfl dX16_dataOut_114 ?_
  obtain ⟨v1, ev1, h⟩ := bd h
  refine g_getI X (pc := 115) fk_12_1 rfl rfl ev1 tb_1581 dX16_dataOut_115 ?_
  refine g_bipush X (pc := 118) (v := 80) dX16_dataOut_118 (by decide) ?_
  refine g_aload_n X (pc := 120) 1 rfl rfl dX16_dataOut_120 ?_
  obtain ⟨v2, ev2, h⟩ := bd h
  refine g_getI X (pc := 121) fk_12_2 rfl rfl ev2 tb_1582 dX16_dataOut_121 ?_
  refine g_iload_n X (pc := 124) 2 rfl rfl dX16_dataOut_124 ?_
  refine g_aload_n X (pc := 125) 1 rfl rfl dX16_dataOut_125 ?_
  obtain ⟨v3, ev3, h⟩ := bd h
  refine g_getI X (pc := 126) fk_12_36 rfl rfl ev3 tb_1625 dX16_dataOut_126 ?_
  refine g_iload X (pc := 129) 5 rfl dX16_dataOut_129 ?_
  refine g_aload_n X (pc := 131) 1 rfl rfl dX16_dataOut_131 ?_
  obtain ⟨q4, eq4, h⟩ := bd h
  obtain ⟨v6, M5, eM5, h⟩ := b2d h
  refine g_callV X (pc := 132) (M' := M5) (ro := some (pI v6)) (c := 12) rfl (by decide) (as := []) (as' := []) (st := [pI a5, pI v3, pI a2, pI v2, pI (80 : Int32), pI v1, pR (some a0)]) eq4 (ctX12_open _ _ _ _ _ _ fu q4  M _ eM5) tb_2108 tb_2105 tb_2106 tb_2107 tb_9 ⟨rfl, hyX12_open⟩ rfl rfl ⟨by decide, by decide⟩ (Nat.le_of_ble_eq_true rfl) dX16_dataOut_132 ?_
  refine g_iconst X (pc := 135) (v := 0) dX16_dataOut_135 (by decide) ?_
  refine g_iload_n X (pc := 136) 3 rfl rfl dX16_dataOut_136 ?_
  obtain ⟨q7, eq7, h⟩ := bd h
  obtain ⟨M8, eM8, h⟩ := bd h
  refine g_callV X (pc := 137) (M' := M8) (ro := none) (c := 16) rfl (by decide) (as := [pI v1, pI (80 : Int32), pI v2, pI a2, pI v3, pI a5, pI v6, pI (0 : Int32), pI a3]) (as' := [pI a3, pI (0 : Int32), pI v6, pI a5, pI v3, pI a2, pI v2, pI (80 : Int32), pI v1]) (st := []) eq7 (ctX16_segmentOut _ _ _ _ _ _ fu q7 v1 (80 : Int32) v2 a2 v3 a5 v6 (0 : Int32) a3 M5 _ eM8) tb_2116 tb_2113 tb_2115 ts_75 tb_8 ⟨rfl, hyX16_segmentOut⟩ rfl rfl ⟨by decide, by decide⟩ (Nat.le_of_ble_eq_true rfl) dX16_dataOut_137 ?_
  refine g_aload_n X (pc := 140) 0 rfl rfl dX16_dataOut_140 ?_
  refine g_aload_n X (pc := 141) 1 rfl rfl dX16_dataOut_141 ?_
  obtain ⟨q9, eq9, h⟩ := bd h
  obtain ⟨M10, eM10, h⟩ := bd h
  refine g_callV X (pc := 142) (M' := M10) (ro := none) (c := 16) rfl (by decide) (as := [pR a1]) (as' := [pR a1]) (st := []) eq9 (ctX16_pays _ _ _ _ _ _ fu q9 a1 M8 _ eM10) tb_2163 tb_2160 tb_2162 ts_84 tb_8 ⟨rfl, hyX16_pays⟩ rfl rfl ⟨by decide, by decide⟩ (Nat.le_of_ble_eq_true rfl) dX16_dataOut_142 ?_
  refine g_aload_n X (pc := 145) 0 rfl rfl dX16_dataOut_145 ?_
  refine g_aload_n X (pc := 146) 1 rfl rfl dX16_dataOut_146 ?_
  refine g_iload_n X (pc := 147) 2 rfl rfl dX16_dataOut_147 ?_
  obtain ⟨q11, eq11, h⟩ := bd h
  obtain ⟨M12, eM12, h⟩ := bd h
  refine g_callV X (pc := 148) (M' := M12) (ro := none) (c := 16) rfl (by decide) (as := [pR a1, pI a2]) (as' := [pI a2, pR a1]) (st := []) eq11 (ctX16_noted _ _ _ _ _ _ fu q11 a1 a2 M10 _ eM12) tb_2167 tb_2164 tb_2166 ts_85 tb_8 ⟨rfl, hyX16_noted⟩ rfl rfl ⟨by decide, by decide⟩ (Nat.le_of_ble_eq_true rfl) dX16_dataOut_148 ?_
  refine g_iload X (pc := 151) 4 rfl dX16_dataOut_151 ?_
  refine g_if_eq X (pc := 153) (tgt := 186) dX16_dataOut_153 (by decide) (fun hc => ?_) (fun hc => ?_)
  · have h := (if_pos hc).symm.trans h
    obtain rfl := Option.some.inj h
    exact g_return X hE dX16_dataOut_186
  · have h := (if_neg hc).symm.trans h
    refine g_aload_n X (pc := 156) 1 rfl rfl dX16_dataOut_156 ?_
    obtain ⟨v13, ev13, h⟩ := bd h
    refine g_getI X (pc := 157) fk_12_31 rfl rfl ev13 tb_1616 dX16_dataOut_157 ?_
    refine g_if_ne X (pc := 160) (tgt := 186) dX16_dataOut_160 (by decide) (fun hc => ?_) (fun hc => ?_)
    · have h := (if_neg hc).symm.trans h
      obtain rfl := Option.some.inj h
      exact g_return X hE dX16_dataOut_186
    · have h := (if_pos hc).symm.trans h
      refine g_aload_n X (pc := 163) 1 rfl rfl dX16_dataOut_163 ?_
      refine g_iconst X (pc := 164) (v := 1) dX16_dataOut_164 (by decide) ?_
      obtain ⟨M14, eM14, h⟩ := bd h
      refine g_putZ X (pc := 165) fk_12_31 rfl rfl rfl eM14 tb_1616 (Or.inl rfl) dX16_dataOut_165 ?_
      refine g_aload_n X (pc := 168) 1 rfl rfl dX16_dataOut_168 ?_
      refine g_aload_n X (pc := 169) 1 rfl rfl dX16_dataOut_169 ?_
      obtain ⟨v15, ev15, h⟩ := bd h
      refine g_getI X (pc := 170) fk_12_0 rfl rfl ev15 tb_1580 dX16_dataOut_170 ?_
      refine g_iconst X (pc := 173) (v := 2) dX16_dataOut_173 (by decide) ?_
      refine g_icmp_ne X (pc := 174) (tgt := 181) dX16_dataOut_174 (by decide) (fun hc => ?_) (fun hc => ?_)
      · have h := (if_neg hc).symm.trans h
        refine g_bipush X (pc := 181) (v := 8) dX16_dataOut_181 (by decide) ?_
        obtain ⟨M16, eM16, h⟩ := bd h
        refine g_putI X (pc := 183) fk_12_0 rfl rfl rfl eM16 tb_1580 (Or.inl rfl) dX16_dataOut_183 ?_
        obtain rfl := Option.some.inj h
        exact g_return X hE dX16_dataOut_186
      · have h := (if_pos hc).symm.trans h
        refine g_iconst X (pc := 177) (v := 3) dX16_dataOut_177 (by decide) ?_
        refine g_goto X (pc := 178) (tgt := 183) dX16_dataOut_178 (by decide) ?_
        obtain ⟨M17, eM17, h⟩ := bd h
        refine g_putI X (pc := 183) fk_12_0 rfl rfl rfl eM17 tb_1580 (Or.inl rfl) dX16_dataOut_183 ?_
        obtain rfl := Option.some.inj h
        exact g_return X hE dX16_dataOut_186
theorem wX16_dataOut_L103 {x : GX} {n0 sl0 : Nat} (X : Cx x cX16_dataOut RX16 none n0 sl0 6 156) {out : Mm} (hE : Ends x n0 sl0 none out) (hn : xn x = 6) (fu : Nat)   (a0 : Nat) (a1 : Option Nat) (a2 : Int32) (a3 : Int32) (a4 : Int32) (a5 : Int32)  (M : Mm) (h : fX16_dataOut_L103 fu  a0 a1 a2 a3 a4 a5 M = some out) : Gw x M 103 [(0, pR (some a0)), (1, pR a1), (2, pI a2), (3, pI a3), (4, pI a4), (5, pI a5)] [] := by
  unfold fX16_dataOut_L103 at h
  refine g_aload_n X (pc := 103) 0 rfl rfl dX16_dataOut_103 ?_
  refine g_dup X (pc := 104) rfl dX16_dataOut_104 ?_
  obtain ⟨v1, ev1, h⟩ := bd h
  refine g_getI X (pc := 105) fk_16_18 rfl rfl ev1 tb_1832 dX16_dataOut_105 ?_
  refine g_iconst X (pc := 108) (v := 1) dX16_dataOut_108 (by decide) ?_
  refine g_iadd X (pc := 109) dX16_dataOut_109 ?_
  obtain ⟨M2, eM2, h⟩ := bd h
  refine g_putI X (pc := 110) fk_16_18 rfl rfl rfl eM2 tb_1832 (Or.inl rfl) dX16_dataOut_110 ?_
  exact wX16_dataOut_L113 X hE hn fu   a0 a1 a2 a3 a4 a5 M2 h
theorem wX16_dataOut_L67 {x : GX} {n0 sl0 : Nat} (X : Cx x cX16_dataOut RX16 none n0 sl0 6 156) {out : Mm} (hE : Ends x n0 sl0 none out) (hn : xn x = 6) (fu : Nat)   (a0 : Nat) (a1 : Option Nat) (a2 : Int32) (a3 : Int32) (a4 : Int32) (s0 : Int32) (s1 : Int32) (M : Mm) (h : fX16_dataOut_L67 fu  a0 a1 a2 a3 a4 s0 s1 M = some out) : Gw x M 67 [(0, pR (some a0)), (1, pR a1), (2, pI a2), (3, pI a3), (4, pI a4)] [pI s1, pI s0] := by
  unfold fX16_dataOut_L67 at h
  refine g_ior X (pc := 67) dX16_dataOut_67 ?_
  refine g_istore X (pc := 68) [(5, pI (s0 ||| s1)), (0, pR (some a0)), (1, pR a1), (2, pI a2), (3, pI a3), (4, pI a4)] (lt_n hn (by decide)) rfl dX16_dataOut_68 ?_
  refine g_aload_n X (pc := 70) 2 rfl rfl dX16_dataOut_70 ?_
  obtain ⟨v1, ev1, h⟩ := bd h
  refine g_getI X (pc := 71) fk_12_0 rfl rfl ev1 tb_1580 dX16_dataOut_71 ?_
  refine g_iconst X (pc := 74) (v := 1) dX16_dataOut_74 (by decide) ?_
  refine g_icmp_eq X (pc := 75) (tgt := 103) dX16_dataOut_75 (by decide) (fun hc => ?_) (fun hc => ?_)
  · have h := (if_pos hc).symm.trans h
    refine g_sub [1, 2, 3, 4, 5, 0] [(0, pR (some a0)), (1, pR a1), (2, pI a2), (3, pI a3), (4, pI a4), (5, pI (s0 ||| s1))] rfl ?_
    exact wX16_dataOut_L103 X hE hn fu   a0 a1 a2 a3 a4 (s0 ||| s1) M h
  · have h := (if_neg hc).symm.trans h
    refine g_aload_n X (pc := 78) 2 rfl rfl dX16_dataOut_78 ?_
    obtain ⟨v2, ev2, h⟩ := bd h
    refine g_getI X (pc := 79) fk_12_0 rfl rfl ev2 tb_1580 dX16_dataOut_79 ?_
    refine g_bipush X (pc := 82) (v := 6) dX16_dataOut_82 (by decide) ?_
    refine g_icmp_eq X (pc := 84) (tgt := 103) dX16_dataOut_84 (by decide) (fun hc => ?_) (fun hc => ?_)
    · have h := (if_pos hc).symm.trans h
      refine g_sub [1, 2, 3, 4, 5, 0] [(0, pR (some a0)), (1, pR a1), (2, pI a2), (3, pI a3), (4, pI a4), (5, pI (s0 ||| s1))] rfl ?_
      exact wX16_dataOut_L103 X hE hn fu   a0 a1 a2 a3 a4 (s0 ||| s1) M h
    · have h := (if_neg hc).symm.trans h
      refine g_aload_n X (pc := 87) 2 rfl rfl dX16_dataOut_87 ?_
      obtain ⟨v3, ev3, h⟩ := bd h
      refine g_getI X (pc := 88) fk_12_0 rfl rfl ev3 tb_1580 dX16_dataOut_88 ?_
      refine g_iconst X (pc := 91) (v := 4) dX16_dataOut_91 (by decide) ?_
      refine g_icmp_eq X (pc := 92) (tgt := 103) dX16_dataOut_92 (by decide) (fun hc => ?_) (fun hc => ?_)
      · have h := (if_pos hc).symm.trans h
        refine g_sub [1, 2, 3, 4, 5, 0] [(0, pR (some a0)), (1, pR a1), (2, pI a2), (3, pI a3), (4, pI a4), (5, pI (s0 ||| s1))] rfl ?_
        exact wX16_dataOut_L103 X hE hn fu   a0 a1 a2 a3 a4 (s0 ||| s1) M h
      · have h := (if_neg hc).symm.trans h
        refine g_iload_n X (pc := 95) 4 rfl rfl dX16_dataOut_95 ?_
        refine g_aload_n X (pc := 96) 2 rfl rfl dX16_dataOut_96 ?_
        obtain ⟨v4, ev4, h⟩ := bd h
        refine g_getI X (pc := 97) fk_12_10 rfl rfl ev4 tb_1590 dX16_dataOut_97 ?_
        refine g_icmp_le X (pc := 100) (tgt := 113) dX16_dataOut_100 (by decide) (fun hc => ?_) (fun hc => ?_)
        · have h := (if_pos hc).symm.trans h
          refine g_sub [1, 2, 3, 4, 5, 0] [(0, pR (some a0)), (1, pR a1), (2, pI a2), (3, pI a3), (4, pI a4), (5, pI (s0 ||| s1))] rfl ?_
          exact wX16_dataOut_L113 X hE hn fu   a0 a1 a2 a3 a4 (s0 ||| s1) M h
        · have h := (if_neg hc).symm.trans h
          refine g_sub [1, 2, 3, 4, 5, 0] [(0, pR (some a0)), (1, pR a1), (2, pI a2), (3, pI a3), (4, pI a4), (5, pI (s0 ||| s1))] rfl ?_
          exact wX16_dataOut_L103 X hE hn fu   a0 a1 a2 a3 a4 (s0 ||| s1) M h
theorem wX16_dataOut_L56 {x : GX} {n0 sl0 : Nat} (X : Cx x cX16_dataOut RX16 none n0 sl0 6 156) {out : Mm} (hE : Ends x n0 sl0 none out) (hn : xn x = 6) (fu : Nat)   (a0 : Nat) (a1 : Option Nat) (a2 : Int32) (a3 : Int32) (a4 : Int32) (s0 : Int32) (s1 : Int32) (M : Mm) (h : fX16_dataOut_L56 fu  a0 a1 a2 a3 a4 s0 s1 M = some out) : Gw x M 56 [(0, pR (some a0)), (1, pR a1), (2, pI a2), (3, pI a3), (4, pI a4)] [pI s1, pI s0] := by
  unfold fX16_dataOut_L56 at h
  refine g_ior X (pc := 56) dX16_dataOut_56 ?_
  refine g_iload X (pc := 57) 4 rfl dX16_dataOut_57 ?_
  refine g_if_eq X (pc := 59) (tgt := 66) dX16_dataOut_59 (by decide) (fun hc => ?_) (fun hc => ?_)
  · have h := (if_pos hc).symm.trans h
    refine g_iconst X (pc := 66) (v := 0) dX16_dataOut_66 (by decide) ?_
    exact wX16_dataOut_L67 X hE hn fu   a0 a1 a2 a3 a4 (s0 ||| s1) (0 : Int32) M h
  · have h := (if_neg hc).symm.trans h
    refine g_iconst X (pc := 62) (v := 1) dX16_dataOut_62 (by decide) ?_
    refine g_goto X (pc := 63) (tgt := 67) dX16_dataOut_63 (by decide) ?_
    exact wX16_dataOut_L67 X hE hn fu   a0 a1 a2 a3 a4 (s0 ||| s1) (1 : Int32) M h
theorem wX16_dataOut_L55 {x : GX} {n0 sl0 : Nat} (X : Cx x cX16_dataOut RX16 none n0 sl0 6 156) {out : Mm} (hE : Ends x n0 sl0 none out) (hn : xn x = 6) (fu : Nat)   (a0 : Nat) (a1 : Option Nat) (a2 : Int32) (a3 : Int32) (a4 : Int32) (s0 : Int32) (M : Mm) (h : fX16_dataOut_L55 fu  a0 a1 a2 a3 a4 s0 M = some out) : Gw x M 55 [(0, pR (some a0)), (1, pR a1), (2, pI a2), (3, pI a3), (4, pI a4)] [pI s0] := by
  unfold fX16_dataOut_L55 at h
  refine g_iconst X (pc := 55) (v := 0) dX16_dataOut_55 (by decide) ?_
  exact wX16_dataOut_L56 X hE hn fu   a0 a1 a2 a3 a4 s0 (0 : Int32) M h
theorem wX16_dataOut_L3 {x : GX} {n0 sl0 : Nat} (X : Cx x cX16_dataOut RX16 none n0 sl0 6 156) {out : Mm} (hE : Ends x n0 sl0 none out) (hn : xn x = 6) (fu : Nat)   : ∀ (n : Nat) (a0 : Nat) (a1 : Option Nat) (a2 : Int32) (a3 : Int32) (a4 : Int32) (a5 : Int32)  (M : Mm), fX16_dataOut_L3 fu  n a0 a1 a2 a3 a4 a5 M = some out → Gw x M 3 [(0, pR (some a0)), (1, pR a1), (2, pI a2), (3, pI a3), (4, pI a4), (5, pI a5)] [] := by
  intro n
  induction n with
  | zero =>
    intro a0 a1 a2 a3 a4 a5 M h
    have h : (none : Option (Mm)) = some out := h
    cases h
  | succ n ih =>
    intro a0 a1 a2 a3 a4 a5 M h
    rw [fX16_dataOut_L3] at h
    refine g_iload X (pc := 3) 5 rfl dX16_dataOut_3 ?_
    refine g_iload_n X (pc := 5) 3 rfl rfl dX16_dataOut_5 ?_
    refine g_icmp_ge X (pc := 6) (tgt := 34) dX16_dataOut_6 (by decide) (fun hc => ?_) (fun hc => ?_)
    · have h := (if_pos hc).symm.trans h
      refine g_bipush X (pc := 34) (v := 16) dX16_dataOut_34 (by decide) ?_
      refine g_iload_n X (pc := 36) 3 rfl rfl dX16_dataOut_36 ?_
      refine g_if_le X (pc := 37) (tgt := 55) dX16_dataOut_37 (by decide) (fun hc => ?_) (fun hc => ?_)
      · have h := (if_pos hc).symm.trans h
        refine g_sub [0, 1, 2, 3, 4] [(0, pR (some a0)), (1, pR a1), (2, pI a2), (3, pI a3), (4, pI a4)] rfl ?_
        exact wX16_dataOut_L55 X hE hn fu   a0 a1 a2 a3 a4 (16 : Int32) M h
      · have h := (if_neg hc).symm.trans h
        refine g_iload_n X (pc := 40) 2 rfl rfl dX16_dataOut_40 ?_
        refine g_iload_n X (pc := 41) 3 rfl rfl dX16_dataOut_41 ?_
        refine g_iadd X (pc := 42) dX16_dataOut_42 ?_
        refine g_aload_n X (pc := 43) 1 rfl rfl dX16_dataOut_43 ?_
        obtain ⟨q1, eq1, h⟩ := bd h
        obtain ⟨v3, M2, eM2, h⟩ := b2d h
        refine g_callV X (pc := 44) (M' := M2) (ro := some (pI v3)) (c := 12) rfl (by decide) (as := []) (as' := []) (st := [pI (a2 + a3), pI (16 : Int32)]) eq1 (ctX12_behind _ _ _ _ _ _ fu q1  M _ eM2) tb_2074 tb_2182 tb_2072 tb_2073 tb_9 ⟨rfl, hyX12_behind⟩ rfl rfl ⟨by decide, by decide⟩ (Nat.le_of_ble_eq_true rfl) dX16_dataOut_44 ?_
        refine g_icmp_ne X (pc := 47) (tgt := 55) dX16_dataOut_47 (by decide) (fun hc => ?_) (fun hc => ?_)
        · have h := (if_neg hc).symm.trans h
          refine g_sub [0, 1, 2, 3, 4] [(0, pR (some a0)), (1, pR a1), (2, pI a2), (3, pI a3), (4, pI a4)] rfl ?_
          exact wX16_dataOut_L55 X hE hn fu   a0 a1 a2 a3 a4 (16 : Int32) M2 h
        · have h := (if_pos hc).symm.trans h
          refine g_bipush X (pc := 50) (v := 8) dX16_dataOut_50 (by decide) ?_
          refine g_goto X (pc := 52) (tgt := 56) dX16_dataOut_52 (by decide) ?_
          refine g_sub [0, 1, 2, 3, 4] [(0, pR (some a0)), (1, pR a1), (2, pI a2), (3, pI a3), (4, pI a4)] rfl ?_
          exact wX16_dataOut_L56 X hE hn fu   a0 a1 a2 a3 a4 (16 : Int32) (8 : Int32) M2 h
    · have h := (if_neg hc).symm.trans h
      refine g_aload_n X (pc := 9) 0 rfl rfl dX16_dataOut_9 ?_
      obtain ⟨v4, ev4, h⟩ := bd h
      refine g_getR X (pc := 10) fk_16_19 rfl rfl ev4 tb_1833 dX16_dataOut_10 ?_
      refine g_bipush X (pc := 13) (v := 54) dX16_dataOut_13 (by decide) ?_
      refine g_iload X (pc := 15) 5 rfl dX16_dataOut_15 ?_
      refine g_iadd X (pc := 17) dX16_dataOut_17 ?_
      refine g_aload_n X (pc := 18) 0 rfl rfl dX16_dataOut_18 ?_
      refine g_aload_n X (pc := 19) 1 rfl rfl dX16_dataOut_19 ?_
      refine g_iload_n X (pc := 20) 2 rfl rfl dX16_dataOut_20 ?_
      refine g_iload X (pc := 21) 5 rfl dX16_dataOut_21 ?_
      refine g_iadd X (pc := 23) dX16_dataOut_23 ?_
      obtain ⟨q5, eq5, h⟩ := bd h
      obtain ⟨v7, M6, eM6, h⟩ := b2d h
      refine g_callV X (pc := 24) (M' := M6) (ro := some (pI v7)) (c := 16) rfl (by decide) (as := [pR a1, pI (a2 + a5)]) (as' := [pI (a2 + a5), pR a1]) (st := [pI ((54 : Int32) + a5), pR v4]) eq5 (ctX16_toSend _ _ _ _ _ _ fu q5 a1 (a2 + a5) M _ eM6) tb_2190 tb_2187 tb_2189 ts_89 tb_8 ⟨rfl, hyX16_toSend⟩ rfl rfl ⟨by decide, by decide⟩ (Nat.le_of_ble_eq_true rfl) dX16_dataOut_24 ?_
      obtain ⟨M8, eM8, h⟩ := bd h
      refine g_bastore X (pc := 27) eM8 dX16_dataOut_27 ?_
      refine g_iinc X (pc := 28) 5 [(5, pI (a5 + (1 : Int32))), (0, pR (some a0)), (1, pR a1), (2, pI a2), (3, pI a3), (4, pI a4)] rfl (iinc_e (by decide)) (lt_n hn (by decide)) rfl dX16_dataOut_28 ?_
      refine g_goto X (pc := 31) (tgt := 3) dX16_dataOut_31 (by decide) ?_
      refine g_sub [1, 2, 3, 4, 5, 0] [(0, pR (some a0)), (1, pR a1), (2, pI a2), (3, pI a3), (4, pI a4), (5, pI (a5 + (1 : Int32)))] rfl ?_
      exact ih a0 a1 a2 a3 a4 (a5 + (1 : Int32)) M8 h
theorem wX16_dataOut {x : GX} {n0 sl0 : Nat} (X : Cx x cX16_dataOut RX16 none n0 sl0 6 156) {out : Mm} (hE : Ends x n0 sl0 none out) (hn : xn x = 6) (fu : Nat)   (a0 : Nat) (a1 : Option Nat) (a2 : Int32) (a3 : Int32) (a4 : Int32)  (M : Mm) (h : fX16_dataOut fu  a0 a1 a2 a3 a4 M = some out) : Gw x M 0 [(0, pR (some a0)), (1, pR a1), (2, pI a2), (3, pI a3), (4, pI a4)] [] := by
  unfold fX16_dataOut at h
  refine g_iconst X (pc := 0) (v := 0) dX16_dataOut_0 (by decide) ?_
  refine g_istore X (pc := 1) [(5, pI (0 : Int32)), (0, pR (some a0)), (1, pR a1), (2, pI a2), (3, pI a3), (4, pI a4)] (lt_n hn (by decide)) rfl dX16_dataOut_1 ?_
  refine g_sub [1, 2, 3, 4, 5, 0] [(0, pR (some a0)), (1, pR a1), (2, pI a2), (3, pI a3), (4, pI a4), (5, pI (0 : Int32))] rfl ?_
  exact wX16_dataOut_L3 X hE hn fu   fu a0 a1 a2 a3 a4 (0 : Int32) M h
theorem hyX16_dataOut : yX16_dataOut.cls ≠ "java/lang/invoke/MethodHandle" ∧ yX16_dataOut.cls ≠ "java/lang/invoke/VarHandle" ∧ (parseMethodDescriptor yX16_dataOut.desc).map (fun d => d.parameters.length) = some 4 := ⟨by decide +kernel, by decide +kernel, by decide +kernel⟩
theorem ctX16_dataOut (l : Launch) (E : Nat → Nat) (D : va_G) (dA : Nat → ClassId) (lo : Nat) (H0 : Heap) (fu : Nat) (a0 : Nat) (a1 : Option Nat) (a2 : Int32) (a3 : Int32) (a4 : Int32) (M : Mm) (out : Mm) (h : fX16_dataOut fu a0 a1 a2 a3 a4 M = some out) : Ct l E D dA lo H0 yX16_dataOut cX16_dataOut 6 none 6 156 [pR (some a0), pR a1, pI a2, pI a3, pI a4] M none out := by
  refine ct_of (by decide +kernel) (Nat.le_of_ble_eq_true rfl) ?_
  intro x hl he hd ha ho hh hn hin X hE
  exact wX16_dataOut X hE hn fu a0 a1 a2 a3 a4 M h
/-! WebHostModel.duplicate(LWebHostModel$Connection;)V -/
def fX16_duplicate_L98 (fu : Nat)  (a0 : Nat) (a1 : Option Nat) (a3 : Int32) (s0 : Int32) (M : Mm) : Option (Mm) :=
    (gI M 12 772 a1).bind fun v1 =>
    (rc M 16 (some a0)).bind fun q2 =>
    (fX16_dataOut fu q2 a1 v1 a3 s0 M).bind fun M3 =>
    (gI M3 12 780 a1).bind fun v4 =>
    (gI M3 12 778 a1).bind fun v5 =>
    (pF M3 12 779 a1 (v4 + ((3 : Int32) * v5))).bind fun M6 =>
    (pZ M6 12 786 a1 (1 : Int32)).bind fun M7 =>
    some M7
def fX16_duplicate_L97 (fu : Nat)  (a0 : Nat) (a1 : Option Nat) (a3 : Int32)  (M : Mm) : Option (Mm) :=
    fX16_duplicate_L98 fu  a0 a1 a3 (0 : Int32) M
def fX16_duplicate (fu : Nat)  (a0 : Nat) (a1 : Option Nat)  (M : Mm) : Option (Mm) :=
    (gI M 12 792 a1).bind fun v1 =>
    (pF M 12 792 a1 (v1 + (1 : Int32))).bind fun M2 =>
    (gI M2 12 792 a1).bind fun v3 =>
    if v3 = (3 : Int32) then (
    (gI M2 12 774 a1).bind fun v8 =>
    (gI M2 12 772 a1).bind fun v9 =>
    (gI M2 12 778 a1).bind fun v10 =>
    (pF M2 12 780 a1 (jmax ((v8 - v9) / (2 : Int32)) ((2 : Int32) * v10))).bind fun M11 =>
    (rc M11 12 a1).bind fun q12 =>
    b2 (fX12_behind fu q12  M11) fun v14 M13 =>
    (gI M13 12 772 a1).bind fun v15 =>
    (gI M13 12 774 a1).bind fun v16 =>
    (gI M13 12 772 a1).bind fun v17 =>
    (gI M13 12 778 a1).bind fun v18 =>
    (some (jmin v18 (jmin (v14 - v15) (v16 - v17)))).bind fun v19 =>
    (gI M13 12 799 a1).bind fun v20 =>
    if v20 = 0 then (
    fX16_duplicate_L97 fu  a0 a1 v19 M13)
    else (
    (gI M13 12 772 a1).bind fun v21 =>
    (rc M13 12 a1).bind fun q22 =>
    b2 (fX12_behind fu q22  M13) fun v24 M23 =>
    if (v21 + v19) = v24 then (
    fX16_duplicate_L98 fu  a0 a1 v19 (1 : Int32) M23)
    else (
    fX16_duplicate_L97 fu  a0 a1 v19 M23)))
    else (
    (gI M2 12 792 a1).bind fun v4 =>
    if v4 ≤ (3 : Int32) then (
    some M2)
    else (
    (gI M2 12 779 a1).bind fun v5 =>
    (gI M2 12 778 a1).bind fun v6 =>
    (pF M2 12 779 a1 (jmin (65535 : Int32) (v5 + v6))).bind fun M7 =>
    some M7))
theorem dX16_duplicate_0 : decode cX16_duplicate 0 = .ok (.aload_n 1, 1) := by decide +kernel
theorem dX16_duplicate_1 : decode cX16_duplicate 1 = .ok (.dup, 1) := by decide +kernel
theorem dX16_duplicate_2 : decode cX16_duplicate 2 = .ok (.getfield 469, 3) := by decide +kernel
theorem dX16_duplicate_5 : decode cX16_duplicate 5 = .ok (.iconst 1, 1) := by decide +kernel
theorem dX16_duplicate_6 : decode cX16_duplicate 6 = .ok (.iadd, 1) := by decide +kernel
theorem dX16_duplicate_7 : decode cX16_duplicate 7 = .ok (.putfield 469, 3) := by decide +kernel
theorem dX16_duplicate_10 : decode cX16_duplicate 10 = .ok (.aload_n 1, 1) := by decide +kernel
theorem dX16_duplicate_11 : decode cX16_duplicate 11 = .ok (.getfield 469, 3) := by decide +kernel
theorem dX16_duplicate_14 : decode cX16_duplicate 14 = .ok (.iconst 3, 1) := by decide +kernel
theorem dX16_duplicate_15 : decode cX16_duplicate 15 = .ok (.if_icmp .ne 120, 3) := by decide +kernel
theorem dX16_duplicate_18 : decode cX16_duplicate 18 = .ok (.aload_n 1, 1) := by decide +kernel
theorem dX16_duplicate_19 : decode cX16_duplicate 19 = .ok (.aload_n 1, 1) := by decide +kernel
theorem dX16_duplicate_20 : decode cX16_duplicate 20 = .ok (.getfield 361, 3) := by decide +kernel
theorem dX16_duplicate_23 : decode cX16_duplicate 23 = .ok (.aload_n 1, 1) := by decide +kernel
theorem dX16_duplicate_24 : decode cX16_duplicate 24 = .ok (.getfield 428, 3) := by decide +kernel
theorem dX16_duplicate_27 : decode cX16_duplicate 27 = .ok (.isub, 1) := by decide +kernel
theorem dX16_duplicate_28 : decode cX16_duplicate 28 = .ok (.iconst 2, 1) := by decide +kernel
theorem dX16_duplicate_29 : decode cX16_duplicate 29 = .ok (.idiv, 1) := by decide +kernel
theorem dX16_duplicate_30 : decode cX16_duplicate 30 = .ok (.iconst 2, 1) := by decide +kernel
theorem dX16_duplicate_31 : decode cX16_duplicate 31 = .ok (.aload_n 1, 1) := by decide +kernel
theorem dX16_duplicate_32 : decode cX16_duplicate 32 = .ok (.getfield 405, 3) := by decide +kernel
theorem dX16_duplicate_35 : decode cX16_duplicate 35 = .ok (.imul, 1) := by decide +kernel
theorem dX16_duplicate_36 : decode cX16_duplicate 36 = .ok (.invokestatic 164, 3) := by decide +kernel
theorem dX16_duplicate_39 : decode cX16_duplicate 39 = .ok (.putfield 457, 3) := by decide +kernel
theorem dX16_duplicate_42 : decode cX16_duplicate 42 = .ok (.aload_n 1, 1) := by decide +kernel
theorem dX16_duplicate_43 : decode cX16_duplicate 43 = .ok (.invokevirtual 402, 3) := by decide +kernel
theorem dX16_duplicate_46 : decode cX16_duplicate 46 = .ok (.aload_n 1, 1) := by decide +kernel
theorem dX16_duplicate_47 : decode cX16_duplicate 47 = .ok (.getfield 428, 3) := by decide +kernel
theorem dX16_duplicate_50 : decode cX16_duplicate 50 = .ok (.isub, 1) := by decide +kernel
theorem dX16_duplicate_51 : decode cX16_duplicate 51 = .ok (.aload_n 1, 1) := by decide +kernel
theorem dX16_duplicate_52 : decode cX16_duplicate 52 = .ok (.getfield 361, 3) := by decide +kernel
theorem dX16_duplicate_55 : decode cX16_duplicate 55 = .ok (.aload_n 1, 1) := by decide +kernel
theorem dX16_duplicate_56 : decode cX16_duplicate 56 = .ok (.getfield 428, 3) := by decide +kernel
theorem dX16_duplicate_59 : decode cX16_duplicate 59 = .ok (.isub, 1) := by decide +kernel
theorem dX16_duplicate_60 : decode cX16_duplicate 60 = .ok (.invokestatic 411, 3) := by decide +kernel
theorem dX16_duplicate_63 : decode cX16_duplicate 63 = .ok (.istore_n 2, 1) := by decide +kernel
theorem dX16_duplicate_64 : decode cX16_duplicate 64 = .ok (.aload_n 1, 1) := by decide +kernel
theorem dX16_duplicate_65 : decode cX16_duplicate 65 = .ok (.getfield 405, 3) := by decide +kernel
theorem dX16_duplicate_68 : decode cX16_duplicate 68 = .ok (.iload_n 2, 1) := by decide +kernel
theorem dX16_duplicate_69 : decode cX16_duplicate 69 = .ok (.invokestatic 411, 3) := by decide +kernel
theorem dX16_duplicate_72 : decode cX16_duplicate 72 = .ok (.istore_n 3, 1) := by decide +kernel
theorem dX16_duplicate_73 : decode cX16_duplicate 73 = .ok (.aload_n 1, 1) := by decide +kernel
theorem dX16_duplicate_74 : decode cX16_duplicate 74 = .ok (.getfield 408, 3) := by decide +kernel
theorem dX16_duplicate_77 : decode cX16_duplicate 77 = .ok (.ifCond .eq 20, 3) := by decide +kernel
theorem dX16_duplicate_80 : decode cX16_duplicate 80 = .ok (.aload_n 1, 1) := by decide +kernel
theorem dX16_duplicate_81 : decode cX16_duplicate 81 = .ok (.getfield 428, 3) := by decide +kernel
theorem dX16_duplicate_84 : decode cX16_duplicate 84 = .ok (.iload_n 3, 1) := by decide +kernel
theorem dX16_duplicate_85 : decode cX16_duplicate 85 = .ok (.iadd, 1) := by decide +kernel
theorem dX16_duplicate_86 : decode cX16_duplicate 86 = .ok (.aload_n 1, 1) := by decide +kernel
theorem dX16_duplicate_87 : decode cX16_duplicate 87 = .ok (.invokevirtual 402, 3) := by decide +kernel
theorem dX16_duplicate_90 : decode cX16_duplicate 90 = .ok (.if_icmp .ne 7, 3) := by decide +kernel
theorem dX16_duplicate_93 : decode cX16_duplicate 93 = .ok (.iconst 1, 1) := by decide +kernel
theorem dX16_duplicate_94 : decode cX16_duplicate 94 = .ok (.goto 4, 3) := by decide +kernel
theorem dX16_duplicate_97 : decode cX16_duplicate 97 = .ok (.iconst 0, 1) := by decide +kernel
theorem dX16_duplicate_98 : decode cX16_duplicate 98 = .ok (.istore 4, 2) := by decide +kernel
theorem dX16_duplicate_100 : decode cX16_duplicate 100 = .ok (.aload_n 0, 1) := by decide +kernel
theorem dX16_duplicate_101 : decode cX16_duplicate 101 = .ok (.aload_n 1, 1) := by decide +kernel
theorem dX16_duplicate_102 : decode cX16_duplicate 102 = .ok (.aload_n 1, 1) := by decide +kernel
theorem dX16_duplicate_103 : decode cX16_duplicate 103 = .ok (.getfield 428, 3) := by decide +kernel
theorem dX16_duplicate_106 : decode cX16_duplicate 106 = .ok (.iload_n 3, 1) := by decide +kernel
theorem dX16_duplicate_107 : decode cX16_duplicate 107 = .ok (.iload 4, 2) := by decide +kernel
theorem dX16_duplicate_109 : decode cX16_duplicate 109 = .ok (.invokevirtual 421, 3) := by decide +kernel
theorem dX16_duplicate_112 : decode cX16_duplicate 112 = .ok (.aload_n 1, 1) := by decide +kernel
theorem dX16_duplicate_113 : decode cX16_duplicate 113 = .ok (.aload_n 1, 1) := by decide +kernel
theorem dX16_duplicate_114 : decode cX16_duplicate 114 = .ok (.getfield 457, 3) := by decide +kernel
theorem dX16_duplicate_117 : decode cX16_duplicate 117 = .ok (.iconst 3, 1) := by decide +kernel
theorem dX16_duplicate_118 : decode cX16_duplicate 118 = .ok (.aload_n 1, 1) := by decide +kernel
theorem dX16_duplicate_119 : decode cX16_duplicate 119 = .ok (.getfield 405, 3) := by decide +kernel
theorem dX16_duplicate_122 : decode cX16_duplicate 122 = .ok (.imul, 1) := by decide +kernel
theorem dX16_duplicate_123 : decode cX16_duplicate 123 = .ok (.iadd, 1) := by decide +kernel
theorem dX16_duplicate_124 : decode cX16_duplicate 124 = .ok (.putfield 431, 3) := by decide +kernel
theorem dX16_duplicate_127 : decode cX16_duplicate 127 = .ok (.aload_n 1, 1) := by decide +kernel
theorem dX16_duplicate_128 : decode cX16_duplicate 128 = .ok (.iconst 1, 1) := by decide +kernel
theorem dX16_duplicate_129 : decode cX16_duplicate 129 = .ok (.putfield 463, 3) := by decide +kernel
theorem dX16_duplicate_132 : decode cX16_duplicate 132 = .ok (.goto 29, 3) := by decide +kernel
theorem dX16_duplicate_135 : decode cX16_duplicate 135 = .ok (.aload_n 1, 1) := by decide +kernel
theorem dX16_duplicate_136 : decode cX16_duplicate 136 = .ok (.getfield 469, 3) := by decide +kernel
theorem dX16_duplicate_139 : decode cX16_duplicate 139 = .ok (.iconst 3, 1) := by decide +kernel
theorem dX16_duplicate_140 : decode cX16_duplicate 140 = .ok (.if_icmp .le 21, 3) := by decide +kernel
theorem dX16_duplicate_143 : decode cX16_duplicate 143 = .ok (.aload_n 1, 1) := by decide +kernel
theorem dX16_duplicate_144 : decode cX16_duplicate 144 = .ok (.ldc 14, 2) := by decide +kernel
theorem dX16_duplicate_146 : decode cX16_duplicate 146 = .ok (.aload_n 1, 1) := by decide +kernel
theorem dX16_duplicate_147 : decode cX16_duplicate 147 = .ok (.getfield 431, 3) := by decide +kernel
theorem dX16_duplicate_150 : decode cX16_duplicate 150 = .ok (.aload_n 1, 1) := by decide +kernel
theorem dX16_duplicate_151 : decode cX16_duplicate 151 = .ok (.getfield 405, 3) := by decide +kernel
theorem dX16_duplicate_154 : decode cX16_duplicate 154 = .ok (.iadd, 1) := by decide +kernel
theorem dX16_duplicate_155 : decode cX16_duplicate 155 = .ok (.invokestatic 411, 3) := by decide +kernel
theorem dX16_duplicate_158 : decode cX16_duplicate 158 = .ok (.putfield 431, 3) := by decide +kernel
theorem dX16_duplicate_161 : decode cX16_duplicate 161 = .ok (.return_, 1) := by decide +kernel
theorem wX16_duplicate_L98 {x : GX} {n0 sl0 : Nat} (X : Cx x cX16_duplicate RX16 none n0 sl0 7 181) {out : Mm} (hE : Ends x n0 sl0 none out) (hn : xn x = 5) (fu : Nat)   (a0 : Nat) (a1 : Option Nat) (a3 : Int32) (s0 : Int32) (M : Mm) (h : fX16_duplicate_L98 fu  a0 a1 a3 s0 M = some out) : Gw x M 98 [(0, pR (some a0)), (1, pR a1), (3, pI a3)] [pI s0] := by
  unfold fX16_duplicate_L98 at h
  refine g_istore X (pc := 98) [(4, pI s0), (0, pR (some a0)), (1, pR a1), (3, pI a3)] (lt_n hn (by decide)) rfl dX16_duplicate_98 ?_
  refine g_aload_n X (pc := 100) 1 rfl rfl dX16_duplicate_100 ?_
  refine g_aload_n X (pc := 101) 2 rfl rfl dX16_duplicate_101 ?_
  refine g_aload_n X (pc := 102) 2 rfl rfl dX16_duplicate_102 ?_
  obtain ⟨v1, ev1, h⟩ := bd h
  refine g_getI X (pc := 103) fk_12_4 rfl rfl ev1 tb_1584 dX16_duplicate_103 ?_
  refine g_iload_n X (pc := 106) 3 rfl rfl dX16_duplicate_106 ?_
  refine g_iload X (pc := 107) 0 rfl dX16_duplicate_107 ?_
  obtain ⟨q2, eq2, h⟩ := bd h
  obtain ⟨M3, eM3, h⟩ := bd h
  refine g_callV X (pc := 109) (M' := M3) (ro := none) (c := 16) rfl (by decide) (as := [pR a1, pI v1, pI a3, pI s0]) (as' := [pI s0, pI a3, pI v1, pR a1]) (st := []) eq2 (ctX16_dataOut _ _ _ _ _ _ fu q2 a1 v1 a3 s0 M _ eM3) tb_2186 tb_2183 tb_2185 ts_88 tb_8 ⟨rfl, hyX16_dataOut⟩ rfl rfl ⟨by decide, by decide⟩ (Nat.le_of_ble_eq_true rfl) dX16_duplicate_109 ?_
  refine g_aload_n X (pc := 112) 2 rfl rfl dX16_duplicate_112 ?_
  refine g_aload_n X (pc := 113) 2 rfl rfl dX16_duplicate_113 ?_
  obtain ⟨v4, ev4, h⟩ := bd h
  refine g_getI X (pc := 114) fk_12_12 rfl rfl ev4 tb_1592 dX16_duplicate_114 ?_
  refine g_iconst X (pc := 117) (v := 3) dX16_duplicate_117 (by decide) ?_
  refine g_aload_n X (pc := 118) 2 rfl rfl dX16_duplicate_118 ?_
  obtain ⟨v5, ev5, h⟩ := bd h
  refine g_getI X (pc := 119) fk_12_10 rfl rfl ev5 tb_1590 dX16_duplicate_119 ?_
  refine g_imul X (pc := 122) dX16_duplicate_122 ?_
  refine g_iadd X (pc := 123) dX16_duplicate_123 ?_
  obtain ⟨M6, eM6, h⟩ := bd h
  refine g_putI X (pc := 124) fk_12_11 rfl rfl rfl eM6 tb_1591 (Or.inl rfl) dX16_duplicate_124 ?_
  refine g_aload_n X (pc := 127) 2 rfl rfl dX16_duplicate_127 ?_
  refine g_iconst X (pc := 128) (v := 1) dX16_duplicate_128 (by decide) ?_
  obtain ⟨M7, eM7, h⟩ := bd h
  refine g_putZ X (pc := 129) fk_12_18 rfl rfl rfl eM7 tb_1598 (Or.inl rfl) dX16_duplicate_129 ?_
  refine g_goto X (pc := 132) (tgt := 161) dX16_duplicate_132 (by decide) ?_
  obtain rfl := Option.some.inj h
  exact g_return X hE dX16_duplicate_161
theorem wX16_duplicate_L97 {x : GX} {n0 sl0 : Nat} (X : Cx x cX16_duplicate RX16 none n0 sl0 7 181) {out : Mm} (hE : Ends x n0 sl0 none out) (hn : xn x = 5) (fu : Nat)   (a0 : Nat) (a1 : Option Nat) (a3 : Int32)  (M : Mm) (h : fX16_duplicate_L97 fu  a0 a1 a3 M = some out) : Gw x M 97 [(0, pR (some a0)), (1, pR a1), (3, pI a3)] [] := by
  unfold fX16_duplicate_L97 at h
  refine g_iconst X (pc := 97) (v := 0) dX16_duplicate_97 (by decide) ?_
  exact wX16_duplicate_L98 X hE hn fu   a0 a1 a3 (0 : Int32) M h
theorem wX16_duplicate {x : GX} {n0 sl0 : Nat} (X : Cx x cX16_duplicate RX16 none n0 sl0 7 181) {out : Mm} (hE : Ends x n0 sl0 none out) (hn : xn x = 5) (fu : Nat)   (a0 : Nat) (a1 : Option Nat)  (M : Mm) (h : fX16_duplicate fu  a0 a1 M = some out) : Gw x M 0 [(0, pR (some a0)), (1, pR a1)] [] := by
  unfold fX16_duplicate at h
  refine g_aload_n X (pc := 0) 1 rfl rfl dX16_duplicate_0 ?_
  refine g_dup X (pc := 1) rfl dX16_duplicate_1 ?_
  obtain ⟨v1, ev1, h⟩ := bd h
  refine g_getI X (pc := 2) fk_12_24 rfl rfl ev1 tb_1604 dX16_duplicate_2 ?_
  refine g_iconst X (pc := 5) (v := 1) dX16_duplicate_5 (by decide) ?_
  refine g_iadd X (pc := 6) dX16_duplicate_6 ?_
  obtain ⟨M2, eM2, h⟩ := bd h
  refine g_putI X (pc := 7) fk_12_24 rfl rfl rfl eM2 tb_1604 (Or.inl rfl) dX16_duplicate_7 ?_
  refine g_aload_n X (pc := 10) 1 rfl rfl dX16_duplicate_10 ?_
  obtain ⟨v3, ev3, h⟩ := bd h
  refine g_getI X (pc := 11) fk_12_24 rfl rfl ev3 tb_1604 dX16_duplicate_11 ?_
  refine g_iconst X (pc := 14) (v := 3) dX16_duplicate_14 (by decide) ?_
  refine g_icmp_ne X (pc := 15) (tgt := 135) dX16_duplicate_15 (by decide) (fun hc => ?_) (fun hc => ?_)
  · have h := (if_neg hc).symm.trans h
    refine g_aload_n X (pc := 135) 1 rfl rfl dX16_duplicate_135 ?_
    obtain ⟨v4, ev4, h⟩ := bd h
    refine g_getI X (pc := 136) fk_12_24 rfl rfl ev4 tb_1604 dX16_duplicate_136 ?_
    refine g_iconst X (pc := 139) (v := 3) dX16_duplicate_139 (by decide) ?_
    refine g_icmp_le X (pc := 140) (tgt := 161) dX16_duplicate_140 (by decide) (fun hc => ?_) (fun hc => ?_)
    · have h := (if_pos hc).symm.trans h
      obtain rfl := Option.some.inj h
      exact g_return X hE dX16_duplicate_161
    · have h := (if_neg hc).symm.trans h
      refine g_aload_n X (pc := 143) 1 rfl rfl dX16_duplicate_143 ?_
      refine g_ldc X (pc := 144) tb_1565 dX16_duplicate_144 ?_
      refine g_aload_n X (pc := 146) 1 rfl rfl dX16_duplicate_146 ?_
      obtain ⟨v5, ev5, h⟩ := bd h
      refine g_getI X (pc := 147) fk_12_11 rfl rfl ev5 tb_1591 dX16_duplicate_147 ?_
      refine g_aload_n X (pc := 150) 1 rfl rfl dX16_duplicate_150 ?_
      obtain ⟨v6, ev6, h⟩ := bd h
      refine g_getI X (pc := 151) fk_12_10 rfl rfl ev6 tb_1590 dX16_duplicate_151 ?_
      refine g_iadd X (pc := 154) dX16_duplicate_154 ?_
      refine g_mmin X (pc := 155) tb_2155 tb_348 tb_13 tb_349 ⟨by decide, Nat.le_of_ble_eq_true rfl⟩ dX16_duplicate_155 ?_
      obtain ⟨M7, eM7, h⟩ := bd h
      refine g_putI X (pc := 158) fk_12_11 rfl rfl rfl eM7 tb_1591 (Or.inl rfl) dX16_duplicate_158 ?_
      obtain rfl := Option.some.inj h
      exact g_return X hE dX16_duplicate_161
  · have h := (if_pos hc).symm.trans h
    refine g_aload_n X (pc := 18) 1 rfl rfl dX16_duplicate_18 ?_
    refine g_aload_n X (pc := 19) 1 rfl rfl dX16_duplicate_19 ?_
    obtain ⟨v8, ev8, h⟩ := bd h
    refine g_getI X (pc := 20) fk_12_6 rfl rfl ev8 tb_1586 dX16_duplicate_20 ?_
    refine g_aload_n X (pc := 23) 1 rfl rfl dX16_duplicate_23 ?_
    obtain ⟨v9, ev9, h⟩ := bd h
    refine g_getI X (pc := 24) fk_12_4 rfl rfl ev9 tb_1584 dX16_duplicate_24 ?_
    refine g_isub X (pc := 27) dX16_duplicate_27 ?_
    refine g_iconst X (pc := 28) (v := 2) dX16_duplicate_28 (by decide) ?_
    refine g_idiv X (pc := 29) (by decide) dX16_duplicate_29 ?_
    refine g_iconst X (pc := 30) (v := 2) dX16_duplicate_30 (by decide) ?_
    refine g_aload_n X (pc := 31) 1 rfl rfl dX16_duplicate_31 ?_
    obtain ⟨v10, ev10, h⟩ := bd h
    refine g_getI X (pc := 32) fk_12_10 rfl rfl ev10 tb_1590 dX16_duplicate_32 ?_
    refine g_imul X (pc := 35) dX16_duplicate_35 ?_
    refine g_mmax X (pc := 36) tb_2100 tb_405 tb_13 tb_406 ⟨by decide, Nat.le_of_ble_eq_true rfl⟩ dX16_duplicate_36 ?_
    obtain ⟨M11, eM11, h⟩ := bd h
    refine g_putI X (pc := 39) fk_12_12 rfl rfl rfl eM11 tb_1592 (Or.inl rfl) dX16_duplicate_39 ?_
    refine g_aload_n X (pc := 42) 1 rfl rfl dX16_duplicate_42 ?_
    obtain ⟨q12, eq12, h⟩ := bd h
    obtain ⟨v14, M13, eM13, h⟩ := b2d h
    refine g_callV X (pc := 43) (M' := M13) (ro := some (pI v14)) (c := 12) rfl (by decide) (as := []) (as' := []) (st := []) eq12 (ctX12_behind _ _ _ _ _ _ fu q12  M11 _ eM13) tb_2074 tb_2182 tb_2072 tb_2073 tb_9 ⟨rfl, hyX12_behind⟩ rfl rfl ⟨by decide, by decide⟩ (Nat.le_of_ble_eq_true rfl) dX16_duplicate_43 ?_
    refine g_aload_n X (pc := 46) 1 rfl rfl dX16_duplicate_46 ?_
    obtain ⟨v15, ev15, h⟩ := bd h
    refine g_getI X (pc := 47) fk_12_4 rfl rfl ev15 tb_1584 dX16_duplicate_47 ?_
    refine g_isub X (pc := 50) dX16_duplicate_50 ?_
    refine g_aload_n X (pc := 51) 1 rfl rfl dX16_duplicate_51 ?_
    obtain ⟨v16, ev16, h⟩ := bd h
    refine g_getI X (pc := 52) fk_12_6 rfl rfl ev16 tb_1586 dX16_duplicate_52 ?_
    refine g_aload_n X (pc := 55) 1 rfl rfl dX16_duplicate_55 ?_
    obtain ⟨v17, ev17, h⟩ := bd h
    refine g_getI X (pc := 56) fk_12_4 rfl rfl ev17 tb_1584 dX16_duplicate_56 ?_
    refine g_isub X (pc := 59) dX16_duplicate_59 ?_
    refine g_mmin X (pc := 60) tb_2155 tb_348 tb_13 tb_349 ⟨by decide, Nat.le_of_ble_eq_true rfl⟩ dX16_duplicate_60 ?_
    refine g_istore_n X (pc := 63) [(2, pI (jmin (v14 - v15) (v16 - v17))), (0, pR (some a0)), (1, pR a1)] rfl (lt_n hn (by decide)) rfl dX16_duplicate_63 ?_
    refine g_aload_n X (pc := 64) 2 rfl rfl dX16_duplicate_64 ?_
    obtain ⟨v18, ev18, h⟩ := bd h
    refine g_getI X (pc := 65) fk_12_10 rfl rfl ev18 tb_1590 dX16_duplicate_65 ?_
    refine g_iload_n X (pc := 68) 0 rfl rfl dX16_duplicate_68 ?_
    refine g_mmin X (pc := 69) tb_2155 tb_348 tb_13 tb_349 ⟨by decide, Nat.le_of_ble_eq_true rfl⟩ dX16_duplicate_69 ?_
    obtain ⟨v19, ev19, h⟩ := bd h
    refine g_nmI ev19 ?_
    refine g_istore_n X (pc := 72) [(3, pI v19), (2, pI (jmin (v14 - v15) (v16 - v17))), (0, pR (some a0)), (1, pR a1)] rfl (lt_n hn (by decide)) rfl dX16_duplicate_72 ?_
    refine g_aload_n X (pc := 73) 3 rfl rfl dX16_duplicate_73 ?_
    obtain ⟨v20, ev20, h⟩ := bd h
    refine g_getI X (pc := 74) fk_12_31 rfl rfl ev20 tb_1616 dX16_duplicate_74 ?_
    refine g_if_eq X (pc := 77) (tgt := 97) dX16_duplicate_77 (by decide) (fun hc => ?_) (fun hc => ?_)
    · have h := (if_pos hc).symm.trans h
      refine g_sub [2, 3, 0] [(0, pR (some a0)), (1, pR a1), (3, pI v19)] rfl ?_
      exact wX16_duplicate_L97 X hE hn fu   a0 a1 v19 M13 h
    · have h := (if_neg hc).symm.trans h
      refine g_aload_n X (pc := 80) 3 rfl rfl dX16_duplicate_80 ?_
      obtain ⟨v21, ev21, h⟩ := bd h
      refine g_getI X (pc := 81) fk_12_4 rfl rfl ev21 tb_1584 dX16_duplicate_81 ?_
      refine g_iload_n X (pc := 84) 0 rfl rfl dX16_duplicate_84 ?_
      refine g_iadd X (pc := 85) dX16_duplicate_85 ?_
      refine g_aload_n X (pc := 86) 3 rfl rfl dX16_duplicate_86 ?_
      obtain ⟨q22, eq22, h⟩ := bd h
      obtain ⟨v24, M23, eM23, h⟩ := b2d h
      refine g_callV X (pc := 87) (M' := M23) (ro := some (pI v24)) (c := 12) rfl (by decide) (as := []) (as' := []) (st := [pI (v21 + v19)]) eq22 (ctX12_behind _ _ _ _ _ _ fu q22  M13 _ eM23) tb_2074 tb_2182 tb_2072 tb_2073 tb_9 ⟨rfl, hyX12_behind⟩ rfl rfl ⟨by decide, by decide⟩ (Nat.le_of_ble_eq_true rfl) dX16_duplicate_87 ?_
      refine g_icmp_ne X (pc := 90) (tgt := 97) dX16_duplicate_90 (by decide) (fun hc => ?_) (fun hc => ?_)
      · have h := (if_neg hc).symm.trans h
        refine g_sub [2, 3, 0] [(0, pR (some a0)), (1, pR a1), (3, pI v19)] rfl ?_
        exact wX16_duplicate_L97 X hE hn fu   a0 a1 v19 M23 h
      · have h := (if_pos hc).symm.trans h
        refine g_iconst X (pc := 93) (v := 1) dX16_duplicate_93 (by decide) ?_
        refine g_goto X (pc := 94) (tgt := 98) dX16_duplicate_94 (by decide) ?_
        refine g_sub [2, 3, 0] [(0, pR (some a0)), (1, pR a1), (3, pI v19)] rfl ?_
        exact wX16_duplicate_L98 X hE hn fu   a0 a1 v19 (1 : Int32) M23 h
theorem hyX16_duplicate : yX16_duplicate.cls ≠ "java/lang/invoke/MethodHandle" ∧ yX16_duplicate.cls ≠ "java/lang/invoke/VarHandle" ∧ (parseMethodDescriptor yX16_duplicate.desc).map (fun d => d.parameters.length) = some 1 := ⟨by decide +kernel, by decide +kernel, by decide +kernel⟩
theorem ctX16_duplicate (l : Launch) (E : Nat → Nat) (D : va_G) (dA : Nat → ClassId) (lo : Nat) (H0 : Heap) (fu : Nat) (a0 : Nat) (a1 : Option Nat) (M : Mm) (out : Mm) (h : fX16_duplicate fu a0 a1 M = some out) : Ct l E D dA lo H0 yX16_duplicate cX16_duplicate 5 none 7 181 [pR (some a0), pR a1] M none out := by
  refine ct_of (by decide +kernel) (Nat.le_of_ble_eq_true rfl) ?_
  intro x hl he hd ha ho hh hn hin X hE
  exact wX16_duplicate X hE hn fu a0 a1 M h
/-! WebHostModel.acknowledgement(LWebHostModel$Connection;)Z -/
def fX16_acknowledgement_L318 (fu : Nat)  (a0 : Nat) (a1 : Option Nat) (a2 : Int32)  (M : Mm) : Option (Int32 × Mm) :=
    if a2 = 0 then (
    rN .boolean (1 : Int32) M)
    else (
    (gI M 12 768 a1).bind fun v1 =>
    if v1 = (8 : Int32) then (
    (rc M 16 (some a0)).bind fun q2 =>
    (fX16_gone fu q2 a1 M).bind fun M3 =>
    rN .boolean (0 : Int32) M3)
    else (
    rN .boolean (1 : Int32) M))
def fX16_acknowledgement_L289 (fu : Nat)  (a0 : Nat) (a1 : Option Nat) (a2 : Int32)  (M : Mm) : Option (Int32 × Mm) :=
    if a2 = 0 then (
    fX16_acknowledgement_L318 fu  a0 a1 a2 M)
    else (
    (gI M 12 768 a1).bind fun v1 =>
    if v1 = (5 : Int32) then (
    (pF M 12 768 a1 (6 : Int32)).bind fun M2 =>
    (gI M2 16 1034 (some a0)).bind fun v3 =>
    (pF M2 12 813 a1 v3).bind fun M4 =>
    rN .boolean (1 : Int32) M4)
    else (
    fX16_acknowledgement_L318 fu  a0 a1 a2 M))
def fX16_acknowledgement_L260 (fu : Nat)  (a0 : Nat) (a1 : Option Nat) (s0 : Int32) (M : Mm) : Option (Int32 × Mm) :=
    if s0 = 0 then (
    fX16_acknowledgement_L289 fu  a0 a1 s0 M)
    else (
    (gI M 12 768 a1).bind fun v1 =>
    if v1 = (3 : Int32) then (
    (pF M 12 768 a1 (4 : Int32)).bind fun M2 =>
    (gI M2 16 1034 (some a0)).bind fun v3 =>
    (pF M2 12 813 a1 v3).bind fun M4 =>
    rN .boolean (1 : Int32) M4)
    else (
    fX16_acknowledgement_L289 fu  a0 a1 s0 M))
def fX16_acknowledgement_L259 (fu : Nat)  (a0 : Nat) (a1 : Option Nat)  (M : Mm) : Option (Int32 × Mm) :=
    fX16_acknowledgement_L260 fu  a0 a1 (0 : Int32) M
def fX16_acknowledgement_L235 (fu : Nat)  (a0 : Nat) (a1 : Option Nat)  (M : Mm) : Option (Int32 × Mm) :=
    (gI M 12 799 a1).bind fun v1 =>
    if v1 = 0 then (
    fX16_acknowledgement_L259 fu  a0 a1 M)
    else (
    (gI M 12 772 a1).bind fun v2 =>
    (rc M 12 a1).bind fun q3 =>
    b2 (fX12_behind fu q3  M) fun v5 M4 =>
    if v2 = (v5 + (1 : Int32)) then (
    fX16_acknowledgement_L260 fu  a0 a1 (1 : Int32) M4)
    else (
    fX16_acknowledgement_L259 fu  a0 a1 M4))
def fX16_acknowledgement_L209 (fu : Nat)  (a0 : Nat) (a1 : Option Nat)  (M : Mm) : Option (Int32 × Mm) :=
    (gI M 16 1059 (some a0)).bind fun v1 =>
    (gI M 12 772 a1).bind fun v2 =>
    b2 (fX16_before fu  v1 v2 M) fun v4 M3 =>
    if v4 = 0 then (
    (gI M3 12 775 a1).bind fun v5 =>
    if v5 = 0 then (
    (pF M3 12 791 a1 (0 : Int32)).bind fun M6 =>
    fX16_acknowledgement_L235 fu  a0 a1 M6)
    else (
    fX16_acknowledgement_L235 fu  a0 a1 M3))
    else (
    fX16_acknowledgement_L235 fu  a0 a1 M3)
def fX16_acknowledgement_L204 (fu : Nat)  (a0 : Nat) (a1 : Option Nat)  (M : Mm) : Option (Int32 × Mm) :=
    (rc M 16 (some a0)).bind fun q1 =>
    (fX16_takeWindow fu q1 a1 M).bind fun M2 =>
    fX16_acknowledgement_L209 fu  a0 a1 M2
def fX16_acknowledgement_L151 (fu : Nat)  (a0 : Nat) (a1 : Option Nat)  (M : Mm) : Option (Int32 × Mm) :=
    (gI M 16 1059 (some a0)).bind fun v1 =>
    (gI M 12 772 a1).bind fun v2 =>
    b2 (fX16_before fu  v1 v2 M) fun v4 M3 =>
    if v4 = 0 then (
    (gI M3 12 776 a1).bind fun v5 =>
    (gI M3 16 1058 (some a0)).bind fun v6 =>
    b2 (fX16_before fu  v5 v6 M3) fun v8 M7 =>
    if v8 = 0 then (
    (gI M7 12 776 a1).bind fun v9 =>
    (gI M7 16 1058 (some a0)).bind fun v10 =>
    if v9 = v10 then (
    (gI M7 16 1059 (some a0)).bind fun v11 =>
    (gI M7 12 777 a1).bind fun v12 =>
    b2 (fX16_before fu  v11 v12 M7) fun v14 M13 =>
    if v14 = 0 then (
    fX16_acknowledgement_L204 fu  a0 a1 M13)
    else (
    fX16_acknowledgement_L209 fu  a0 a1 M13))
    else (
    fX16_acknowledgement_L209 fu  a0 a1 M7))
    else (
    fX16_acknowledgement_L204 fu  a0 a1 M7))
    else (
    fX16_acknowledgement_L209 fu  a0 a1 M3)
def fX16_acknowledgement (fu : Nat)  (a0 : Nat) (a1 : Option Nat)  (M : Mm) : Option (Int32 × Mm) :=
    (gI M 12 768 a1).bind fun v1 =>
    if v1 = (1 : Int32) then (
    (gI M 16 1059 (some a0)).bind fun v27 =>
    (gI M 12 771 a1).bind fun v28 =>
    if v27 = (v28 + (1 : Int32)) then (
    (rc M 16 (some a0)).bind fun q29 =>
    (fX16_fresh fu q29 a1 M).bind fun M30 =>
    (pF M30 12 768 a1 (2 : Int32)).bind fun M31 =>
    (gI M31 16 1034 (some a0)).bind fun v32 =>
    (pF M31 12 811 a1 v32).bind fun M33 =>
    (gI M33 16 1034 (some a0)).bind fun v34 =>
    (pF M33 12 812 a1 v34).bind fun M35 =>
    (rc M35 16 (some a0)).bind fun q36 =>
    (fX16_takeWindow fu q36 a1 M35).bind fun M37 =>
    rN .boolean (1 : Int32) M37)
    else (
    (rc M 16 (some a0)).bind fun q38 =>
    (fX16_reset fu q38  M).bind fun M39 =>
    rN .boolean (0 : Int32) M39))
    else (
    (gI M 16 1059 (some a0)).bind fun v2 =>
    (gI M 12 774 a1).bind fun v3 =>
    b2 (fX16_isBehind fu  v2 v3 M) fun v5 M4 =>
    if v5 = 0 then (
    (gI M4 16 1059 (some a0)).bind fun v6 =>
    (gI M4 12 772 a1).bind fun v7 =>
    b2 (fX16_isBehind fu  v6 v7 M4) fun v9 M8 =>
    if v9 = 0 then (
    (gI M8 16 1059 (some a0)).bind fun v10 =>
    (gI M8 12 772 a1).bind fun v11 =>
    if v10 = v11 then (
    (rc M8 16 (some a0)).bind fun q12 =>
    b2 (fX16_extent fu q12  M8) fun v14 M13 =>
    if v14 = 0 then (
    (gI M13 16 1061 (some a0)).bind fun v15 =>
    (gI M13 12 775 a1).bind fun v16 =>
    if v15 = v16 then (
    (gI M13 12 772 a1).bind fun v17 =>
    (gI M13 12 774 a1).bind fun v18 =>
    b2 (fX16_before fu  v17 v18 M13) fun v20 M19 =>
    if v20 = 0 then (
    fX16_acknowledgement_L151 fu  a0 a1 M19)
    else (
    (rc M19 16 (some a0)).bind fun q21 =>
    (fX16_duplicate fu q21 a1 M19).bind fun M22 =>
    fX16_acknowledgement_L151 fu  a0 a1 M22))
    else (
    fX16_acknowledgement_L151 fu  a0 a1 M13))
    else (
    fX16_acknowledgement_L151 fu  a0 a1 M13))
    else (
    fX16_acknowledgement_L151 fu  a0 a1 M8))
    else (
    (rc M8 16 (some a0)).bind fun q23 =>
    (fX16_fresh fu q23 a1 M8).bind fun M24 =>
    fX16_acknowledgement_L151 fu  a0 a1 M24))
    else (
    (rc M4 16 (some a0)).bind fun q25 =>
    (fX16_acknowledge fu q25 a1 M4).bind fun M26 =>
    rN .boolean (0 : Int32) M26))
theorem dX16_acknowledgement_0 : decode cX16_acknowledgement 0 = .ok (.aload_n 1, 1) := by decide +kernel
theorem dX16_acknowledgement_1 : decode cX16_acknowledgement 1 = .ok (.getfield 152, 3) := by decide +kernel
theorem dX16_acknowledgement_4 : decode cX16_acknowledgement 4 = .ok (.iconst 1, 1) := by decide +kernel
theorem dX16_acknowledgement_5 : decode cX16_acknowledgement 5 = .ok (.if_icmp .ne 55, 3) := by decide +kernel
theorem dX16_acknowledgement_8 : decode cX16_acknowledgement 8 = .ok (.aload_n 0, 1) := by decide +kernel
theorem dX16_acknowledgement_9 : decode cX16_acknowledgement 9 = .ok (.getfield 299, 3) := by decide +kernel
theorem dX16_acknowledgement_12 : decode cX16_acknowledgement 12 = .ok (.aload_n 1, 1) := by decide +kernel
theorem dX16_acknowledgement_13 : decode cX16_acknowledgement 13 = .ok (.getfield 354, 3) := by decide +kernel
theorem dX16_acknowledgement_16 : decode cX16_acknowledgement 16 = .ok (.iconst 1, 1) := by decide +kernel
theorem dX16_acknowledgement_17 : decode cX16_acknowledgement 17 = .ok (.iadd, 1) := by decide +kernel
theorem dX16_acknowledgement_18 : decode cX16_acknowledgement 18 = .ok (.if_icmp .eq 9, 3) := by decide +kernel
theorem dX16_acknowledgement_21 : decode cX16_acknowledgement 21 = .ok (.aload_n 0, 1) := by decide +kernel
theorem dX16_acknowledgement_22 : decode cX16_acknowledgement 22 = .ok (.invokevirtual 438, 3) := by decide +kernel
theorem dX16_acknowledgement_25 : decode cX16_acknowledgement 25 = .ok (.iconst 0, 1) := by decide +kernel
theorem dX16_acknowledgement_26 : decode cX16_acknowledgement 26 = .ok (.ireturn, 1) := by decide +kernel
theorem dX16_acknowledgement_27 : decode cX16_acknowledgement 27 = .ok (.aload_n 0, 1) := by decide +kernel
theorem dX16_acknowledgement_28 : decode cX16_acknowledgement 28 = .ok (.aload_n 1, 1) := by decide +kernel
theorem dX16_acknowledgement_29 : decode cX16_acknowledgement 29 = .ok (.invokevirtual 517, 3) := by decide +kernel
theorem dX16_acknowledgement_32 : decode cX16_acknowledgement 32 = .ok (.aload_n 1, 1) := by decide +kernel
theorem dX16_acknowledgement_33 : decode cX16_acknowledgement 33 = .ok (.iconst 2, 1) := by decide +kernel
theorem dX16_acknowledgement_34 : decode cX16_acknowledgement 34 = .ok (.putfield 152, 3) := by decide +kernel
theorem dX16_acknowledgement_37 : decode cX16_acknowledgement 37 = .ok (.aload_n 1, 1) := by decide +kernel
theorem dX16_acknowledgement_38 : decode cX16_acknowledgement 38 = .ok (.aload_n 0, 1) := by decide +kernel
theorem dX16_acknowledgement_39 : decode cX16_acknowledgement 39 = .ok (.getfield 134, 3) := by decide +kernel
theorem dX16_acknowledgement_42 : decode cX16_acknowledgement 42 = .ok (.putfield 520, 3) := by decide +kernel
theorem dX16_acknowledgement_45 : decode cX16_acknowledgement 45 = .ok (.aload_n 1, 1) := by decide +kernel
theorem dX16_acknowledgement_46 : decode cX16_acknowledgement 46 = .ok (.aload_n 0, 1) := by decide +kernel
theorem dX16_acknowledgement_47 : decode cX16_acknowledgement 47 = .ok (.getfield 134, 3) := by decide +kernel
theorem dX16_acknowledgement_50 : decode cX16_acknowledgement 50 = .ok (.putfield 523, 3) := by decide +kernel
theorem dX16_acknowledgement_53 : decode cX16_acknowledgement 53 = .ok (.aload_n 0, 1) := by decide +kernel
theorem dX16_acknowledgement_54 : decode cX16_acknowledgement 54 = .ok (.aload_n 1, 1) := by decide +kernel
theorem dX16_acknowledgement_55 : decode cX16_acknowledgement 55 = .ok (.invokevirtual 526, 3) := by decide +kernel
theorem dX16_acknowledgement_58 : decode cX16_acknowledgement 58 = .ok (.iconst 1, 1) := by decide +kernel
theorem dX16_acknowledgement_59 : decode cX16_acknowledgement 59 = .ok (.ireturn, 1) := by decide +kernel
theorem dX16_acknowledgement_60 : decode cX16_acknowledgement 60 = .ok (.aload_n 0, 1) := by decide +kernel
theorem dX16_acknowledgement_61 : decode cX16_acknowledgement 61 = .ok (.getfield 299, 3) := by decide +kernel
theorem dX16_acknowledgement_64 : decode cX16_acknowledgement 64 = .ok (.aload_n 1, 1) := by decide +kernel
theorem dX16_acknowledgement_65 : decode cX16_acknowledgement 65 = .ok (.getfield 361, 3) := by decide +kernel
theorem dX16_acknowledgement_68 : decode cX16_acknowledgement 68 = .ok (.invokestatic 529, 3) := by decide +kernel
theorem dX16_acknowledgement_71 : decode cX16_acknowledgement 71 = .ok (.ifCond .eq 10, 3) := by decide +kernel
theorem dX16_acknowledgement_74 : decode cX16_acknowledgement 74 = .ok (.aload_n 0, 1) := by decide +kernel
theorem dX16_acknowledgement_75 : decode cX16_acknowledgement 75 = .ok (.aload_n 1, 1) := by decide +kernel
theorem dX16_acknowledgement_76 : decode cX16_acknowledgement 76 = .ok (.invokevirtual 496, 3) := by decide +kernel
theorem dX16_acknowledgement_79 : decode cX16_acknowledgement 79 = .ok (.iconst 0, 1) := by decide +kernel
theorem dX16_acknowledgement_80 : decode cX16_acknowledgement 80 = .ok (.ireturn, 1) := by decide +kernel
theorem dX16_acknowledgement_81 : decode cX16_acknowledgement 81 = .ok (.aload_n 0, 1) := by decide +kernel
theorem dX16_acknowledgement_82 : decode cX16_acknowledgement 82 = .ok (.getfield 299, 3) := by decide +kernel
theorem dX16_acknowledgement_85 : decode cX16_acknowledgement 85 = .ok (.aload_n 1, 1) := by decide +kernel
theorem dX16_acknowledgement_86 : decode cX16_acknowledgement 86 = .ok (.getfield 428, 3) := by decide +kernel
theorem dX16_acknowledgement_89 : decode cX16_acknowledgement 89 = .ok (.invokestatic 529, 3) := by decide +kernel
theorem dX16_acknowledgement_92 : decode cX16_acknowledgement 92 = .ok (.ifCond .eq 11, 3) := by decide +kernel
theorem dX16_acknowledgement_95 : decode cX16_acknowledgement 95 = .ok (.aload_n 0, 1) := by decide +kernel
theorem dX16_acknowledgement_96 : decode cX16_acknowledgement 96 = .ok (.aload_n 1, 1) := by decide +kernel
theorem dX16_acknowledgement_97 : decode cX16_acknowledgement 97 = .ok (.invokevirtual 517, 3) := by decide +kernel
theorem dX16_acknowledgement_100 : decode cX16_acknowledgement 100 = .ok (.goto 51, 3) := by decide +kernel
theorem dX16_acknowledgement_103 : decode cX16_acknowledgement 103 = .ok (.aload_n 0, 1) := by decide +kernel
theorem dX16_acknowledgement_104 : decode cX16_acknowledgement 104 = .ok (.getfield 299, 3) := by decide +kernel
theorem dX16_acknowledgement_107 : decode cX16_acknowledgement 107 = .ok (.aload_n 1, 1) := by decide +kernel
theorem dX16_acknowledgement_108 : decode cX16_acknowledgement 108 = .ok (.getfield 428, 3) := by decide +kernel
theorem dX16_acknowledgement_111 : decode cX16_acknowledgement 111 = .ok (.if_icmp .ne 40, 3) := by decide +kernel
theorem dX16_acknowledgement_114 : decode cX16_acknowledgement 114 = .ok (.aload_n 0, 1) := by decide +kernel
theorem dX16_acknowledgement_115 : decode cX16_acknowledgement 115 = .ok (.invokevirtual 333, 3) := by decide +kernel
theorem dX16_acknowledgement_118 : decode cX16_acknowledgement 118 = .ok (.ifCond .ne 33, 3) := by decide +kernel
theorem dX16_acknowledgement_121 : decode cX16_acknowledgement 121 = .ok (.aload_n 0, 1) := by decide +kernel
theorem dX16_acknowledgement_122 : decode cX16_acknowledgement 122 = .ok (.getfield 305, 3) := by decide +kernel
theorem dX16_acknowledgement_125 : decode cX16_acknowledgement 125 = .ok (.aload_n 1, 1) := by decide +kernel
theorem dX16_acknowledgement_126 : decode cX16_acknowledgement 126 = .ok (.getfield 434, 3) := by decide +kernel
theorem dX16_acknowledgement_129 : decode cX16_acknowledgement 129 = .ok (.if_icmp .ne 22, 3) := by decide +kernel
theorem dX16_acknowledgement_132 : decode cX16_acknowledgement 132 = .ok (.aload_n 1, 1) := by decide +kernel
theorem dX16_acknowledgement_133 : decode cX16_acknowledgement 133 = .ok (.getfield 428, 3) := by decide +kernel
theorem dX16_acknowledgement_136 : decode cX16_acknowledgement 136 = .ok (.aload_n 1, 1) := by decide +kernel
theorem dX16_acknowledgement_137 : decode cX16_acknowledgement 137 = .ok (.getfield 361, 3) := by decide +kernel
theorem dX16_acknowledgement_140 : decode cX16_acknowledgement 140 = .ok (.invokestatic 363, 3) := by decide +kernel
theorem dX16_acknowledgement_143 : decode cX16_acknowledgement 143 = .ok (.ifCond .eq 8, 3) := by decide +kernel
theorem dX16_acknowledgement_146 : decode cX16_acknowledgement 146 = .ok (.aload_n 0, 1) := by decide +kernel
theorem dX16_acknowledgement_147 : decode cX16_acknowledgement 147 = .ok (.aload_n 1, 1) := by decide +kernel
theorem dX16_acknowledgement_148 : decode cX16_acknowledgement 148 = .ok (.invokevirtual 532, 3) := by decide +kernel
theorem dX16_acknowledgement_151 : decode cX16_acknowledgement 151 = .ok (.aload_n 0, 1) := by decide +kernel
theorem dX16_acknowledgement_152 : decode cX16_acknowledgement 152 = .ok (.getfield 299, 3) := by decide +kernel
theorem dX16_acknowledgement_155 : decode cX16_acknowledgement 155 = .ok (.aload_n 1, 1) := by decide +kernel
theorem dX16_acknowledgement_156 : decode cX16_acknowledgement 156 = .ok (.getfield 428, 3) := by decide +kernel
theorem dX16_acknowledgement_159 : decode cX16_acknowledgement 159 = .ok (.invokestatic 363, 3) := by decide +kernel
theorem dX16_acknowledgement_162 : decode cX16_acknowledgement 162 = .ok (.ifCond .ne 47, 3) := by decide +kernel
theorem dX16_acknowledgement_165 : decode cX16_acknowledgement 165 = .ok (.aload_n 1, 1) := by decide +kernel
theorem dX16_acknowledgement_166 : decode cX16_acknowledgement 166 = .ok (.getfield 448, 3) := by decide +kernel
theorem dX16_acknowledgement_169 : decode cX16_acknowledgement 169 = .ok (.aload_n 0, 1) := by decide +kernel
theorem dX16_acknowledgement_170 : decode cX16_acknowledgement 170 = .ok (.getfield 298, 3) := by decide +kernel
theorem dX16_acknowledgement_173 : decode cX16_acknowledgement 173 = .ok (.invokestatic 363, 3) := by decide +kernel
theorem dX16_acknowledgement_176 : decode cX16_acknowledgement 176 = .ok (.ifCond .ne 28, 3) := by decide +kernel
theorem dX16_acknowledgement_179 : decode cX16_acknowledgement 179 = .ok (.aload_n 1, 1) := by decide +kernel
theorem dX16_acknowledgement_180 : decode cX16_acknowledgement 180 = .ok (.getfield 448, 3) := by decide +kernel
theorem dX16_acknowledgement_183 : decode cX16_acknowledgement 183 = .ok (.aload_n 0, 1) := by decide +kernel
theorem dX16_acknowledgement_184 : decode cX16_acknowledgement 184 = .ok (.getfield 298, 3) := by decide +kernel
theorem dX16_acknowledgement_187 : decode cX16_acknowledgement 187 = .ok (.if_icmp .ne 22, 3) := by decide +kernel
theorem dX16_acknowledgement_190 : decode cX16_acknowledgement 190 = .ok (.aload_n 0, 1) := by decide +kernel
theorem dX16_acknowledgement_191 : decode cX16_acknowledgement 191 = .ok (.getfield 299, 3) := by decide +kernel
theorem dX16_acknowledgement_194 : decode cX16_acknowledgement 194 = .ok (.aload_n 1, 1) := by decide +kernel
theorem dX16_acknowledgement_195 : decode cX16_acknowledgement 195 = .ok (.getfield 451, 3) := by decide +kernel
theorem dX16_acknowledgement_198 : decode cX16_acknowledgement 198 = .ok (.invokestatic 363, 3) := by decide +kernel
theorem dX16_acknowledgement_201 : decode cX16_acknowledgement 201 = .ok (.ifCond .ne 8, 3) := by decide +kernel
theorem dX16_acknowledgement_204 : decode cX16_acknowledgement 204 = .ok (.aload_n 0, 1) := by decide +kernel
theorem dX16_acknowledgement_205 : decode cX16_acknowledgement 205 = .ok (.aload_n 1, 1) := by decide +kernel
theorem dX16_acknowledgement_206 : decode cX16_acknowledgement 206 = .ok (.invokevirtual 526, 3) := by decide +kernel
theorem dX16_acknowledgement_209 : decode cX16_acknowledgement 209 = .ok (.aload_n 0, 1) := by decide +kernel
theorem dX16_acknowledgement_210 : decode cX16_acknowledgement 210 = .ok (.getfield 299, 3) := by decide +kernel
theorem dX16_acknowledgement_213 : decode cX16_acknowledgement 213 = .ok (.aload_n 1, 1) := by decide +kernel
theorem dX16_acknowledgement_214 : decode cX16_acknowledgement 214 = .ok (.getfield 428, 3) := by decide +kernel
theorem dX16_acknowledgement_217 : decode cX16_acknowledgement 217 = .ok (.invokestatic 363, 3) := by decide +kernel
theorem dX16_acknowledgement_220 : decode cX16_acknowledgement 220 = .ok (.ifCond .ne 15, 3) := by decide +kernel
theorem dX16_acknowledgement_223 : decode cX16_acknowledgement 223 = .ok (.aload_n 1, 1) := by decide +kernel
theorem dX16_acknowledgement_224 : decode cX16_acknowledgement 224 = .ok (.getfield 434, 3) := by decide +kernel
theorem dX16_acknowledgement_227 : decode cX16_acknowledgement 227 = .ok (.ifCond .ne 8, 3) := by decide +kernel
theorem dX16_acknowledgement_230 : decode cX16_acknowledgement 230 = .ok (.aload_n 1, 1) := by decide +kernel
theorem dX16_acknowledgement_231 : decode cX16_acknowledgement 231 = .ok (.iconst 0, 1) := by decide +kernel
theorem dX16_acknowledgement_232 : decode cX16_acknowledgement 232 = .ok (.putfield 466, 3) := by decide +kernel
theorem dX16_acknowledgement_235 : decode cX16_acknowledgement 235 = .ok (.aload_n 1, 1) := by decide +kernel
theorem dX16_acknowledgement_236 : decode cX16_acknowledgement 236 = .ok (.getfield 408, 3) := by decide +kernel
theorem dX16_acknowledgement_239 : decode cX16_acknowledgement 239 = .ok (.ifCond .eq 20, 3) := by decide +kernel
theorem dX16_acknowledgement_242 : decode cX16_acknowledgement 242 = .ok (.aload_n 1, 1) := by decide +kernel
theorem dX16_acknowledgement_243 : decode cX16_acknowledgement 243 = .ok (.getfield 428, 3) := by decide +kernel
theorem dX16_acknowledgement_246 : decode cX16_acknowledgement 246 = .ok (.aload_n 1, 1) := by decide +kernel
theorem dX16_acknowledgement_247 : decode cX16_acknowledgement 247 = .ok (.invokevirtual 402, 3) := by decide +kernel
theorem dX16_acknowledgement_250 : decode cX16_acknowledgement 250 = .ok (.iconst 1, 1) := by decide +kernel
theorem dX16_acknowledgement_251 : decode cX16_acknowledgement 251 = .ok (.iadd, 1) := by decide +kernel
theorem dX16_acknowledgement_252 : decode cX16_acknowledgement 252 = .ok (.if_icmp .ne 7, 3) := by decide +kernel
theorem dX16_acknowledgement_255 : decode cX16_acknowledgement 255 = .ok (.iconst 1, 1) := by decide +kernel
theorem dX16_acknowledgement_256 : decode cX16_acknowledgement 256 = .ok (.goto 4, 3) := by decide +kernel
theorem dX16_acknowledgement_259 : decode cX16_acknowledgement 259 = .ok (.iconst 0, 1) := by decide +kernel
theorem dX16_acknowledgement_260 : decode cX16_acknowledgement 260 = .ok (.istore_n 2, 1) := by decide +kernel
theorem dX16_acknowledgement_261 : decode cX16_acknowledgement 261 = .ok (.iload_n 2, 1) := by decide +kernel
theorem dX16_acknowledgement_262 : decode cX16_acknowledgement 262 = .ok (.ifCond .eq 27, 3) := by decide +kernel
theorem dX16_acknowledgement_265 : decode cX16_acknowledgement 265 = .ok (.aload_n 1, 1) := by decide +kernel
theorem dX16_acknowledgement_266 : decode cX16_acknowledgement 266 = .ok (.getfield 152, 3) := by decide +kernel
theorem dX16_acknowledgement_269 : decode cX16_acknowledgement 269 = .ok (.iconst 3, 1) := by decide +kernel
theorem dX16_acknowledgement_270 : decode cX16_acknowledgement 270 = .ok (.if_icmp .ne 19, 3) := by decide +kernel
theorem dX16_acknowledgement_273 : decode cX16_acknowledgement 273 = .ok (.aload_n 1, 1) := by decide +kernel
theorem dX16_acknowledgement_274 : decode cX16_acknowledgement 274 = .ok (.iconst 4, 1) := by decide +kernel
theorem dX16_acknowledgement_275 : decode cX16_acknowledgement 275 = .ok (.putfield 152, 3) := by decide +kernel
theorem dX16_acknowledgement_278 : decode cX16_acknowledgement 278 = .ok (.aload_n 1, 1) := by decide +kernel
theorem dX16_acknowledgement_279 : decode cX16_acknowledgement 279 = .ok (.aload_n 0, 1) := by decide +kernel
theorem dX16_acknowledgement_280 : decode cX16_acknowledgement 280 = .ok (.getfield 134, 3) := by decide +kernel
theorem dX16_acknowledgement_283 : decode cX16_acknowledgement 283 = .ok (.putfield 499, 3) := by decide +kernel
theorem dX16_acknowledgement_286 : decode cX16_acknowledgement 286 = .ok (.goto 52, 3) := by decide +kernel
theorem dX16_acknowledgement_289 : decode cX16_acknowledgement 289 = .ok (.iload_n 2, 1) := by decide +kernel
theorem dX16_acknowledgement_290 : decode cX16_acknowledgement 290 = .ok (.ifCond .eq 28, 3) := by decide +kernel
theorem dX16_acknowledgement_293 : decode cX16_acknowledgement 293 = .ok (.aload_n 1, 1) := by decide +kernel
theorem dX16_acknowledgement_294 : decode cX16_acknowledgement 294 = .ok (.getfield 152, 3) := by decide +kernel
theorem dX16_acknowledgement_297 : decode cX16_acknowledgement 297 = .ok (.iconst 5, 1) := by decide +kernel
theorem dX16_acknowledgement_298 : decode cX16_acknowledgement 298 = .ok (.if_icmp .ne 20, 3) := by decide +kernel
theorem dX16_acknowledgement_301 : decode cX16_acknowledgement 301 = .ok (.aload_n 1, 1) := by decide +kernel
theorem dX16_acknowledgement_302 : decode cX16_acknowledgement 302 = .ok (.bipush 6, 2) := by decide +kernel
theorem dX16_acknowledgement_304 : decode cX16_acknowledgement 304 = .ok (.putfield 152, 3) := by decide +kernel
theorem dX16_acknowledgement_307 : decode cX16_acknowledgement 307 = .ok (.aload_n 1, 1) := by decide +kernel
theorem dX16_acknowledgement_308 : decode cX16_acknowledgement 308 = .ok (.aload_n 0, 1) := by decide +kernel
theorem dX16_acknowledgement_309 : decode cX16_acknowledgement 309 = .ok (.getfield 134, 3) := by decide +kernel
theorem dX16_acknowledgement_312 : decode cX16_acknowledgement 312 = .ok (.putfield 499, 3) := by decide +kernel
theorem dX16_acknowledgement_315 : decode cX16_acknowledgement 315 = .ok (.goto 23, 3) := by decide +kernel
theorem dX16_acknowledgement_318 : decode cX16_acknowledgement 318 = .ok (.iload_n 2, 1) := by decide +kernel
theorem dX16_acknowledgement_319 : decode cX16_acknowledgement 319 = .ok (.ifCond .eq 19, 3) := by decide +kernel
theorem dX16_acknowledgement_322 : decode cX16_acknowledgement 322 = .ok (.aload_n 1, 1) := by decide +kernel
theorem dX16_acknowledgement_323 : decode cX16_acknowledgement 323 = .ok (.getfield 152, 3) := by decide +kernel
theorem dX16_acknowledgement_326 : decode cX16_acknowledgement 326 = .ok (.bipush 8, 2) := by decide +kernel
theorem dX16_acknowledgement_328 : decode cX16_acknowledgement 328 = .ok (.if_icmp .ne 10, 3) := by decide +kernel
theorem dX16_acknowledgement_331 : decode cX16_acknowledgement 331 = .ok (.aload_n 0, 1) := by decide +kernel
theorem dX16_acknowledgement_332 : decode cX16_acknowledgement 332 = .ok (.aload_n 1, 1) := by decide +kernel
theorem dX16_acknowledgement_333 : decode cX16_acknowledgement 333 = .ok (.invokevirtual 502, 3) := by decide +kernel
theorem dX16_acknowledgement_336 : decode cX16_acknowledgement 336 = .ok (.iconst 0, 1) := by decide +kernel
theorem dX16_acknowledgement_337 : decode cX16_acknowledgement 337 = .ok (.ireturn, 1) := by decide +kernel
theorem dX16_acknowledgement_338 : decode cX16_acknowledgement 338 = .ok (.iconst 1, 1) := by decide +kernel
theorem dX16_acknowledgement_339 : decode cX16_acknowledgement 339 = .ok (.ireturn, 1) := by decide +kernel
theorem wX16_acknowledgement_L318 {x : GX} {n0 sl0 : Nat} (X : Cx x cX16_acknowledgement RX16 (some .boolean) n0 sl0 8 205) {out : Int32 × Mm} (hE : Ends x n0 sl0 (some (pI out.1)) out.2) (hn : xn x = 3) (fu : Nat)   (a0 : Nat) (a1 : Option Nat) (a2 : Int32)  (M : Mm) (h : fX16_acknowledgement_L318 fu  a0 a1 a2 M = some out) : Gw x M 318 [(0, pR (some a0)), (1, pR a1), (2, pI a2)] [] := by
  unfold fX16_acknowledgement_L318 at h
  refine g_iload_n X (pc := 318) 2 rfl rfl dX16_acknowledgement_318 ?_
  refine g_if_eq X (pc := 319) (tgt := 338) dX16_acknowledgement_319 (by decide) (fun hc => ?_) (fun hc => ?_)
  · have h := (if_pos hc).symm.trans h
    refine g_iconst X (pc := 338) (v := 1) dX16_acknowledgement_338 (by decide) ?_
    obtain ⟨hz, rfl⟩ := rN_some h
    exact g_nreturn X rfl hz hE dX16_acknowledgement_339
  · have h := (if_neg hc).symm.trans h
    refine g_aload_n X (pc := 322) 1 rfl rfl dX16_acknowledgement_322 ?_
    obtain ⟨v1, ev1, h⟩ := bd h
    refine g_getI X (pc := 323) fk_12_0 rfl rfl ev1 tb_1580 dX16_acknowledgement_323 ?_
    refine g_bipush X (pc := 326) (v := 8) dX16_acknowledgement_326 (by decide) ?_
    refine g_icmp_ne X (pc := 328) (tgt := 338) dX16_acknowledgement_328 (by decide) (fun hc => ?_) (fun hc => ?_)
    · have h := (if_neg hc).symm.trans h
      refine g_iconst X (pc := 338) (v := 1) dX16_acknowledgement_338 (by decide) ?_
      obtain ⟨hz, rfl⟩ := rN_some h
      exact g_nreturn X rfl hz hE dX16_acknowledgement_339
    · have h := (if_pos hc).symm.trans h
      refine g_aload_n X (pc := 331) 0 rfl rfl dX16_acknowledgement_331 ?_
      refine g_aload_n X (pc := 332) 1 rfl rfl dX16_acknowledgement_332 ?_
      obtain ⟨q2, eq2, h⟩ := bd h
      obtain ⟨M3, eM3, h⟩ := bd h
      refine g_callV X (pc := 333) (M' := M3) (ro := none) (c := 16) rfl (by decide) (as := [pR a1]) (as' := [pR a1]) (st := []) eq2 (ctX16_gone _ _ _ _ _ _ fu q2 a1 M _ eM3) tb_2154 tb_2151 tb_2153 ts_82 tb_8 ⟨rfl, hyX16_gone⟩ rfl rfl ⟨by decide, by decide⟩ (Nat.le_of_ble_eq_true rfl) dX16_acknowledgement_333 ?_
      refine g_iconst X (pc := 336) (v := 0) dX16_acknowledgement_336 (by decide) ?_
      obtain ⟨hz, rfl⟩ := rN_some h
      exact g_nreturn X rfl hz hE dX16_acknowledgement_337
theorem wX16_acknowledgement_L289 {x : GX} {n0 sl0 : Nat} (X : Cx x cX16_acknowledgement RX16 (some .boolean) n0 sl0 8 205) {out : Int32 × Mm} (hE : Ends x n0 sl0 (some (pI out.1)) out.2) (hn : xn x = 3) (fu : Nat)   (a0 : Nat) (a1 : Option Nat) (a2 : Int32)  (M : Mm) (h : fX16_acknowledgement_L289 fu  a0 a1 a2 M = some out) : Gw x M 289 [(0, pR (some a0)), (1, pR a1), (2, pI a2)] [] := by
  unfold fX16_acknowledgement_L289 at h
  refine g_iload_n X (pc := 289) 2 rfl rfl dX16_acknowledgement_289 ?_
  refine g_if_eq X (pc := 290) (tgt := 318) dX16_acknowledgement_290 (by decide) (fun hc => ?_) (fun hc => ?_)
  · have h := (if_pos hc).symm.trans h
    exact wX16_acknowledgement_L318 X hE hn fu   a0 a1 a2 M h
  · have h := (if_neg hc).symm.trans h
    refine g_aload_n X (pc := 293) 1 rfl rfl dX16_acknowledgement_293 ?_
    obtain ⟨v1, ev1, h⟩ := bd h
    refine g_getI X (pc := 294) fk_12_0 rfl rfl ev1 tb_1580 dX16_acknowledgement_294 ?_
    refine g_iconst X (pc := 297) (v := 5) dX16_acknowledgement_297 (by decide) ?_
    refine g_icmp_ne X (pc := 298) (tgt := 318) dX16_acknowledgement_298 (by decide) (fun hc => ?_) (fun hc => ?_)
    · have h := (if_neg hc).symm.trans h
      exact wX16_acknowledgement_L318 X hE hn fu   a0 a1 a2 M h
    · have h := (if_pos hc).symm.trans h
      refine g_aload_n X (pc := 301) 1 rfl rfl dX16_acknowledgement_301 ?_
      refine g_bipush X (pc := 302) (v := 6) dX16_acknowledgement_302 (by decide) ?_
      obtain ⟨M2, eM2, h⟩ := bd h
      refine g_putI X (pc := 304) fk_12_0 rfl rfl rfl eM2 tb_1580 (Or.inl rfl) dX16_acknowledgement_304 ?_
      refine g_aload_n X (pc := 307) 1 rfl rfl dX16_acknowledgement_307 ?_
      refine g_aload_n X (pc := 308) 0 rfl rfl dX16_acknowledgement_308 ?_
      obtain ⟨v3, ev3, h⟩ := bd h
      refine g_getI X (pc := 309) fk_16_10 rfl rfl ev3 tb_1824 dX16_acknowledgement_309 ?_
      obtain ⟨M4, eM4, h⟩ := bd h
      refine g_putI X (pc := 312) fk_12_45 rfl rfl rfl eM4 tb_1635 (Or.inl rfl) dX16_acknowledgement_312 ?_
      refine g_goto X (pc := 315) (tgt := 338) dX16_acknowledgement_315 (by decide) ?_
      refine g_iconst X (pc := 338) (v := 1) dX16_acknowledgement_338 (by decide) ?_
      obtain ⟨hz, rfl⟩ := rN_some h
      exact g_nreturn X rfl hz hE dX16_acknowledgement_339
theorem wX16_acknowledgement_L260 {x : GX} {n0 sl0 : Nat} (X : Cx x cX16_acknowledgement RX16 (some .boolean) n0 sl0 8 205) {out : Int32 × Mm} (hE : Ends x n0 sl0 (some (pI out.1)) out.2) (hn : xn x = 3) (fu : Nat)   (a0 : Nat) (a1 : Option Nat) (s0 : Int32) (M : Mm) (h : fX16_acknowledgement_L260 fu  a0 a1 s0 M = some out) : Gw x M 260 [(0, pR (some a0)), (1, pR a1)] [pI s0] := by
  unfold fX16_acknowledgement_L260 at h
  refine g_istore_n X (pc := 260) [(2, pI s0), (0, pR (some a0)), (1, pR a1)] rfl (lt_n hn (by decide)) rfl dX16_acknowledgement_260 ?_
  refine g_iload_n X (pc := 261) 0 rfl rfl dX16_acknowledgement_261 ?_
  refine g_if_eq X (pc := 262) (tgt := 289) dX16_acknowledgement_262 (by decide) (fun hc => ?_) (fun hc => ?_)
  · have h := (if_pos hc).symm.trans h
    refine g_sub [1, 2, 0] [(0, pR (some a0)), (1, pR a1), (2, pI s0)] rfl ?_
    exact wX16_acknowledgement_L289 X hE hn fu   a0 a1 s0 M h
  · have h := (if_neg hc).symm.trans h
    refine g_aload_n X (pc := 265) 2 rfl rfl dX16_acknowledgement_265 ?_
    obtain ⟨v1, ev1, h⟩ := bd h
    refine g_getI X (pc := 266) fk_12_0 rfl rfl ev1 tb_1580 dX16_acknowledgement_266 ?_
    refine g_iconst X (pc := 269) (v := 3) dX16_acknowledgement_269 (by decide) ?_
    refine g_icmp_ne X (pc := 270) (tgt := 289) dX16_acknowledgement_270 (by decide) (fun hc => ?_) (fun hc => ?_)
    · have h := (if_neg hc).symm.trans h
      refine g_sub [1, 2, 0] [(0, pR (some a0)), (1, pR a1), (2, pI s0)] rfl ?_
      exact wX16_acknowledgement_L289 X hE hn fu   a0 a1 s0 M h
    · have h := (if_pos hc).symm.trans h
      refine g_aload_n X (pc := 273) 2 rfl rfl dX16_acknowledgement_273 ?_
      refine g_iconst X (pc := 274) (v := 4) dX16_acknowledgement_274 (by decide) ?_
      obtain ⟨M2, eM2, h⟩ := bd h
      refine g_putI X (pc := 275) fk_12_0 rfl rfl rfl eM2 tb_1580 (Or.inl rfl) dX16_acknowledgement_275 ?_
      refine g_aload_n X (pc := 278) 2 rfl rfl dX16_acknowledgement_278 ?_
      refine g_aload_n X (pc := 279) 1 rfl rfl dX16_acknowledgement_279 ?_
      obtain ⟨v3, ev3, h⟩ := bd h
      refine g_getI X (pc := 280) fk_16_10 rfl rfl ev3 tb_1824 dX16_acknowledgement_280 ?_
      obtain ⟨M4, eM4, h⟩ := bd h
      refine g_putI X (pc := 283) fk_12_45 rfl rfl rfl eM4 tb_1635 (Or.inl rfl) dX16_acknowledgement_283 ?_
      refine g_goto X (pc := 286) (tgt := 338) dX16_acknowledgement_286 (by decide) ?_
      refine g_iconst X (pc := 338) (v := 1) dX16_acknowledgement_338 (by decide) ?_
      obtain ⟨hz, rfl⟩ := rN_some h
      exact g_nreturn X rfl hz hE dX16_acknowledgement_339
theorem wX16_acknowledgement_L259 {x : GX} {n0 sl0 : Nat} (X : Cx x cX16_acknowledgement RX16 (some .boolean) n0 sl0 8 205) {out : Int32 × Mm} (hE : Ends x n0 sl0 (some (pI out.1)) out.2) (hn : xn x = 3) (fu : Nat)   (a0 : Nat) (a1 : Option Nat)  (M : Mm) (h : fX16_acknowledgement_L259 fu  a0 a1 M = some out) : Gw x M 259 [(0, pR (some a0)), (1, pR a1)] [] := by
  unfold fX16_acknowledgement_L259 at h
  refine g_iconst X (pc := 259) (v := 0) dX16_acknowledgement_259 (by decide) ?_
  exact wX16_acknowledgement_L260 X hE hn fu   a0 a1 (0 : Int32) M h
theorem wX16_acknowledgement_L235 {x : GX} {n0 sl0 : Nat} (X : Cx x cX16_acknowledgement RX16 (some .boolean) n0 sl0 8 205) {out : Int32 × Mm} (hE : Ends x n0 sl0 (some (pI out.1)) out.2) (hn : xn x = 3) (fu : Nat)   (a0 : Nat) (a1 : Option Nat)  (M : Mm) (h : fX16_acknowledgement_L235 fu  a0 a1 M = some out) : Gw x M 235 [(0, pR (some a0)), (1, pR a1)] [] := by
  unfold fX16_acknowledgement_L235 at h
  refine g_aload_n X (pc := 235) 1 rfl rfl dX16_acknowledgement_235 ?_
  obtain ⟨v1, ev1, h⟩ := bd h
  refine g_getI X (pc := 236) fk_12_31 rfl rfl ev1 tb_1616 dX16_acknowledgement_236 ?_
  refine g_if_eq X (pc := 239) (tgt := 259) dX16_acknowledgement_239 (by decide) (fun hc => ?_) (fun hc => ?_)
  · have h := (if_pos hc).symm.trans h
    exact wX16_acknowledgement_L259 X hE hn fu   a0 a1 M h
  · have h := (if_neg hc).symm.trans h
    refine g_aload_n X (pc := 242) 1 rfl rfl dX16_acknowledgement_242 ?_
    obtain ⟨v2, ev2, h⟩ := bd h
    refine g_getI X (pc := 243) fk_12_4 rfl rfl ev2 tb_1584 dX16_acknowledgement_243 ?_
    refine g_aload_n X (pc := 246) 1 rfl rfl dX16_acknowledgement_246 ?_
    obtain ⟨q3, eq3, h⟩ := bd h
    obtain ⟨v5, M4, eM4, h⟩ := b2d h
    refine g_callV X (pc := 247) (M' := M4) (ro := some (pI v5)) (c := 12) rfl (by decide) (as := []) (as' := []) (st := [pI v2]) eq3 (ctX12_behind _ _ _ _ _ _ fu q3  M _ eM4) tb_2074 tb_2182 tb_2072 tb_2073 tb_9 ⟨rfl, hyX12_behind⟩ rfl rfl ⟨by decide, by decide⟩ (Nat.le_of_ble_eq_true rfl) dX16_acknowledgement_247 ?_
    refine g_iconst X (pc := 250) (v := 1) dX16_acknowledgement_250 (by decide) ?_
    refine g_iadd X (pc := 251) dX16_acknowledgement_251 ?_
    refine g_icmp_ne X (pc := 252) (tgt := 259) dX16_acknowledgement_252 (by decide) (fun hc => ?_) (fun hc => ?_)
    · have h := (if_neg hc).symm.trans h
      exact wX16_acknowledgement_L259 X hE hn fu   a0 a1 M4 h
    · have h := (if_pos hc).symm.trans h
      refine g_iconst X (pc := 255) (v := 1) dX16_acknowledgement_255 (by decide) ?_
      refine g_goto X (pc := 256) (tgt := 260) dX16_acknowledgement_256 (by decide) ?_
      exact wX16_acknowledgement_L260 X hE hn fu   a0 a1 (1 : Int32) M4 h
theorem wX16_acknowledgement_L209 {x : GX} {n0 sl0 : Nat} (X : Cx x cX16_acknowledgement RX16 (some .boolean) n0 sl0 8 205) {out : Int32 × Mm} (hE : Ends x n0 sl0 (some (pI out.1)) out.2) (hn : xn x = 3) (fu : Nat)   (a0 : Nat) (a1 : Option Nat)  (M : Mm) (h : fX16_acknowledgement_L209 fu  a0 a1 M = some out) : Gw x M 209 [(0, pR (some a0)), (1, pR a1)] [] := by
  unfold fX16_acknowledgement_L209 at h
  refine g_aload_n X (pc := 209) 0 rfl rfl dX16_acknowledgement_209 ?_
  obtain ⟨v1, ev1, h⟩ := bd h
  refine g_getI X (pc := 210) fk_16_35 rfl rfl ev1 tb_1849 dX16_acknowledgement_210 ?_
  refine g_aload_n X (pc := 213) 1 rfl rfl dX16_acknowledgement_213 ?_
  obtain ⟨v2, ev2, h⟩ := bd h
  refine g_getI X (pc := 214) fk_12_4 rfl rfl ev2 tb_1584 dX16_acknowledgement_214 ?_
  obtain ⟨v4, M3, eM3, h⟩ := b2d h
  refine g_callS X (pc := 217) (M' := M3) (ro := some (pI v4)) (as := [pI v1, pI v2]) (as' := [pI v2, pI v1]) (st := []) (ctX16_before _ _ _ _ _ _ fu  v1 v2 M _ eM3) tb_2170 tb_2168 tb_2169 tb_8 hyX16_before rfl rfl ⟨by decide, by decide⟩ (Nat.le_of_ble_eq_true rfl) dX16_acknowledgement_217 ?_
  refine g_if_ne X (pc := 220) (tgt := 235) dX16_acknowledgement_220 (by decide) (fun hc => ?_) (fun hc => ?_)
  · have h := (if_neg hc).symm.trans h
    exact wX16_acknowledgement_L235 X hE hn fu   a0 a1 M3 h
  · have h := (if_pos hc).symm.trans h
    refine g_aload_n X (pc := 223) 1 rfl rfl dX16_acknowledgement_223 ?_
    obtain ⟨v5, ev5, h⟩ := bd h
    refine g_getI X (pc := 224) fk_12_7 rfl rfl ev5 tb_1587 dX16_acknowledgement_224 ?_
    refine g_if_ne X (pc := 227) (tgt := 235) dX16_acknowledgement_227 (by decide) (fun hc => ?_) (fun hc => ?_)
    · have h := (if_neg hc).symm.trans h
      exact wX16_acknowledgement_L235 X hE hn fu   a0 a1 M3 h
    · have h := (if_pos hc).symm.trans h
      refine g_aload_n X (pc := 230) 1 rfl rfl dX16_acknowledgement_230 ?_
      refine g_iconst X (pc := 231) (v := 0) dX16_acknowledgement_231 (by decide) ?_
      obtain ⟨M6, eM6, h⟩ := bd h
      refine g_putI X (pc := 232) fk_12_23 rfl rfl rfl eM6 tb_1603 (Or.inl rfl) dX16_acknowledgement_232 ?_
      exact wX16_acknowledgement_L235 X hE hn fu   a0 a1 M6 h
theorem wX16_acknowledgement_L204 {x : GX} {n0 sl0 : Nat} (X : Cx x cX16_acknowledgement RX16 (some .boolean) n0 sl0 8 205) {out : Int32 × Mm} (hE : Ends x n0 sl0 (some (pI out.1)) out.2) (hn : xn x = 3) (fu : Nat)   (a0 : Nat) (a1 : Option Nat)  (M : Mm) (h : fX16_acknowledgement_L204 fu  a0 a1 M = some out) : Gw x M 204 [(0, pR (some a0)), (1, pR a1)] [] := by
  unfold fX16_acknowledgement_L204 at h
  refine g_aload_n X (pc := 204) 0 rfl rfl dX16_acknowledgement_204 ?_
  refine g_aload_n X (pc := 205) 1 rfl rfl dX16_acknowledgement_205 ?_
  obtain ⟨q1, eq1, h⟩ := bd h
  obtain ⟨M2, eM2, h⟩ := bd h
  refine g_callV X (pc := 206) (M' := M2) (ro := none) (c := 16) rfl (by decide) (as := [pR a1]) (as' := [pR a1]) (st := []) eq1 (ctX16_takeWindow _ _ _ _ _ _ fu q1 a1 M _ eM2) tb_2301 tb_2298 tb_2300 ts_113 tb_8 ⟨rfl, hyX16_takeWindow⟩ rfl rfl ⟨by decide, by decide⟩ (Nat.le_of_ble_eq_true rfl) dX16_acknowledgement_206 ?_
  exact wX16_acknowledgement_L209 X hE hn fu   a0 a1 M2 h
theorem wX16_acknowledgement_L151 {x : GX} {n0 sl0 : Nat} (X : Cx x cX16_acknowledgement RX16 (some .boolean) n0 sl0 8 205) {out : Int32 × Mm} (hE : Ends x n0 sl0 (some (pI out.1)) out.2) (hn : xn x = 3) (fu : Nat)   (a0 : Nat) (a1 : Option Nat)  (M : Mm) (h : fX16_acknowledgement_L151 fu  a0 a1 M = some out) : Gw x M 151 [(0, pR (some a0)), (1, pR a1)] [] := by
  unfold fX16_acknowledgement_L151 at h
  refine g_aload_n X (pc := 151) 0 rfl rfl dX16_acknowledgement_151 ?_
  obtain ⟨v1, ev1, h⟩ := bd h
  refine g_getI X (pc := 152) fk_16_35 rfl rfl ev1 tb_1849 dX16_acknowledgement_152 ?_
  refine g_aload_n X (pc := 155) 1 rfl rfl dX16_acknowledgement_155 ?_
  obtain ⟨v2, ev2, h⟩ := bd h
  refine g_getI X (pc := 156) fk_12_4 rfl rfl ev2 tb_1584 dX16_acknowledgement_156 ?_
  obtain ⟨v4, M3, eM3, h⟩ := b2d h
  refine g_callS X (pc := 159) (M' := M3) (ro := some (pI v4)) (as := [pI v1, pI v2]) (as' := [pI v2, pI v1]) (st := []) (ctX16_before _ _ _ _ _ _ fu  v1 v2 M _ eM3) tb_2170 tb_2168 tb_2169 tb_8 hyX16_before rfl rfl ⟨by decide, by decide⟩ (Nat.le_of_ble_eq_true rfl) dX16_acknowledgement_159 ?_
  refine g_if_ne X (pc := 162) (tgt := 209) dX16_acknowledgement_162 (by decide) (fun hc => ?_) (fun hc => ?_)
  · have h := (if_neg hc).symm.trans h
    exact wX16_acknowledgement_L209 X hE hn fu   a0 a1 M3 h
  · have h := (if_pos hc).symm.trans h
    refine g_aload_n X (pc := 165) 1 rfl rfl dX16_acknowledgement_165 ?_
    obtain ⟨v5, ev5, h⟩ := bd h
    refine g_getI X (pc := 166) fk_12_8 rfl rfl ev5 tb_1588 dX16_acknowledgement_166 ?_
    refine g_aload_n X (pc := 169) 0 rfl rfl dX16_acknowledgement_169 ?_
    obtain ⟨v6, ev6, h⟩ := bd h
    refine g_getI X (pc := 170) fk_16_34 rfl rfl ev6 tb_1848 dX16_acknowledgement_170 ?_
    obtain ⟨v8, M7, eM7, h⟩ := b2d h
    refine g_callS X (pc := 173) (M' := M7) (ro := some (pI v8)) (as := [pI v5, pI v6]) (as' := [pI v6, pI v5]) (st := []) (ctX16_before _ _ _ _ _ _ fu  v5 v6 M3 _ eM7) tb_2170 tb_2168 tb_2169 tb_8 hyX16_before rfl rfl ⟨by decide, by decide⟩ (Nat.le_of_ble_eq_true rfl) dX16_acknowledgement_173 ?_
    refine g_if_ne X (pc := 176) (tgt := 204) dX16_acknowledgement_176 (by decide) (fun hc => ?_) (fun hc => ?_)
    · have h := (if_neg hc).symm.trans h
      exact wX16_acknowledgement_L204 X hE hn fu   a0 a1 M7 h
    · have h := (if_pos hc).symm.trans h
      refine g_aload_n X (pc := 179) 1 rfl rfl dX16_acknowledgement_179 ?_
      obtain ⟨v9, ev9, h⟩ := bd h
      refine g_getI X (pc := 180) fk_12_8 rfl rfl ev9 tb_1588 dX16_acknowledgement_180 ?_
      refine g_aload_n X (pc := 183) 0 rfl rfl dX16_acknowledgement_183 ?_
      obtain ⟨v10, ev10, h⟩ := bd h
      refine g_getI X (pc := 184) fk_16_34 rfl rfl ev10 tb_1848 dX16_acknowledgement_184 ?_
      refine g_icmp_ne X (pc := 187) (tgt := 209) dX16_acknowledgement_187 (by decide) (fun hc => ?_) (fun hc => ?_)
      · have h := (if_neg hc).symm.trans h
        exact wX16_acknowledgement_L209 X hE hn fu   a0 a1 M7 h
      · have h := (if_pos hc).symm.trans h
        refine g_aload_n X (pc := 190) 0 rfl rfl dX16_acknowledgement_190 ?_
        obtain ⟨v11, ev11, h⟩ := bd h
        refine g_getI X (pc := 191) fk_16_35 rfl rfl ev11 tb_1849 dX16_acknowledgement_191 ?_
        refine g_aload_n X (pc := 194) 1 rfl rfl dX16_acknowledgement_194 ?_
        obtain ⟨v12, ev12, h⟩ := bd h
        refine g_getI X (pc := 195) fk_12_9 rfl rfl ev12 tb_1589 dX16_acknowledgement_195 ?_
        obtain ⟨v14, M13, eM13, h⟩ := b2d h
        refine g_callS X (pc := 198) (M' := M13) (ro := some (pI v14)) (as := [pI v11, pI v12]) (as' := [pI v12, pI v11]) (st := []) (ctX16_before _ _ _ _ _ _ fu  v11 v12 M7 _ eM13) tb_2170 tb_2168 tb_2169 tb_8 hyX16_before rfl rfl ⟨by decide, by decide⟩ (Nat.le_of_ble_eq_true rfl) dX16_acknowledgement_198 ?_
        refine g_if_ne X (pc := 201) (tgt := 209) dX16_acknowledgement_201 (by decide) (fun hc => ?_) (fun hc => ?_)
        · have h := (if_neg hc).symm.trans h
          exact wX16_acknowledgement_L209 X hE hn fu   a0 a1 M13 h
        · have h := (if_pos hc).symm.trans h
          exact wX16_acknowledgement_L204 X hE hn fu   a0 a1 M13 h
theorem wX16_acknowledgement {x : GX} {n0 sl0 : Nat} (X : Cx x cX16_acknowledgement RX16 (some .boolean) n0 sl0 8 205) {out : Int32 × Mm} (hE : Ends x n0 sl0 (some (pI out.1)) out.2) (hn : xn x = 3) (fu : Nat)   (a0 : Nat) (a1 : Option Nat)  (M : Mm) (h : fX16_acknowledgement fu  a0 a1 M = some out) : Gw x M 0 [(0, pR (some a0)), (1, pR a1)] [] := by
  unfold fX16_acknowledgement at h
  refine g_aload_n X (pc := 0) 1 rfl rfl dX16_acknowledgement_0 ?_
  obtain ⟨v1, ev1, h⟩ := bd h
  refine g_getI X (pc := 1) fk_12_0 rfl rfl ev1 tb_1580 dX16_acknowledgement_1 ?_
  refine g_iconst X (pc := 4) (v := 1) dX16_acknowledgement_4 (by decide) ?_
  refine g_icmp_ne X (pc := 5) (tgt := 60) dX16_acknowledgement_5 (by decide) (fun hc => ?_) (fun hc => ?_)
  · have h := (if_neg hc).symm.trans h
    refine g_aload_n X (pc := 60) 0 rfl rfl dX16_acknowledgement_60 ?_
    obtain ⟨v2, ev2, h⟩ := bd h
    refine g_getI X (pc := 61) fk_16_35 rfl rfl ev2 tb_1849 dX16_acknowledgement_61 ?_
    refine g_aload_n X (pc := 64) 1 rfl rfl dX16_acknowledgement_64 ?_
    obtain ⟨v3, ev3, h⟩ := bd h
    refine g_getI X (pc := 65) fk_12_6 rfl rfl ev3 tb_1586 dX16_acknowledgement_65 ?_
    obtain ⟨v5, M4, eM4, h⟩ := b2d h
    refine g_callS X (pc := 68) (M' := M4) (ro := some (pI v5)) (as := [pI v2, pI v3]) (as' := [pI v3, pI v2]) (st := []) (ctX16_isBehind _ _ _ _ _ _ fu  v2 v3 M _ eM4) tb_2289 tb_2287 tb_2288 tb_8 hyX16_isBehind rfl rfl ⟨by decide, by decide⟩ (Nat.le_of_ble_eq_true rfl) dX16_acknowledgement_68 ?_
    refine g_if_eq X (pc := 71) (tgt := 81) dX16_acknowledgement_71 (by decide) (fun hc => ?_) (fun hc => ?_)
    · have h := (if_pos hc).symm.trans h
      refine g_aload_n X (pc := 81) 0 rfl rfl dX16_acknowledgement_81 ?_
      obtain ⟨v6, ev6, h⟩ := bd h
      refine g_getI X (pc := 82) fk_16_35 rfl rfl ev6 tb_1849 dX16_acknowledgement_82 ?_
      refine g_aload_n X (pc := 85) 1 rfl rfl dX16_acknowledgement_85 ?_
      obtain ⟨v7, ev7, h⟩ := bd h
      refine g_getI X (pc := 86) fk_12_4 rfl rfl ev7 tb_1584 dX16_acknowledgement_86 ?_
      obtain ⟨v9, M8, eM8, h⟩ := b2d h
      refine g_callS X (pc := 89) (M' := M8) (ro := some (pI v9)) (as := [pI v6, pI v7]) (as' := [pI v7, pI v6]) (st := []) (ctX16_isBehind _ _ _ _ _ _ fu  v6 v7 M4 _ eM8) tb_2289 tb_2287 tb_2288 tb_8 hyX16_isBehind rfl rfl ⟨by decide, by decide⟩ (Nat.le_of_ble_eq_true rfl) dX16_acknowledgement_89 ?_
      refine g_if_eq X (pc := 92) (tgt := 103) dX16_acknowledgement_92 (by decide) (fun hc => ?_) (fun hc => ?_)
      · have h := (if_pos hc).symm.trans h
        refine g_aload_n X (pc := 103) 0 rfl rfl dX16_acknowledgement_103 ?_
        obtain ⟨v10, ev10, h⟩ := bd h
        refine g_getI X (pc := 104) fk_16_35 rfl rfl ev10 tb_1849 dX16_acknowledgement_104 ?_
        refine g_aload_n X (pc := 107) 1 rfl rfl dX16_acknowledgement_107 ?_
        obtain ⟨v11, ev11, h⟩ := bd h
        refine g_getI X (pc := 108) fk_12_4 rfl rfl ev11 tb_1584 dX16_acknowledgement_108 ?_
        refine g_icmp_ne X (pc := 111) (tgt := 151) dX16_acknowledgement_111 (by decide) (fun hc => ?_) (fun hc => ?_)
        · have h := (if_neg hc).symm.trans h
          exact wX16_acknowledgement_L151 X hE hn fu   a0 a1 M8 h
        · have h := (if_pos hc).symm.trans h
          refine g_aload_n X (pc := 114) 0 rfl rfl dX16_acknowledgement_114 ?_
          obtain ⟨q12, eq12, h⟩ := bd h
          obtain ⟨v14, M13, eM13, h⟩ := b2d h
          refine g_callV X (pc := 115) (M' := M13) (ro := some (pI v14)) (c := 16) rfl (by decide) (as := []) (as' := []) (st := []) eq12 (ctX16_extent _ _ _ _ _ _ fu q12  M8 _ eM13) tb_2258 tb_2255 tb_2257 ts_106 tb_8 ⟨rfl, hyX16_extent⟩ rfl rfl ⟨by decide, by decide⟩ (Nat.le_of_ble_eq_true rfl) dX16_acknowledgement_115 ?_
          refine g_if_ne X (pc := 118) (tgt := 151) dX16_acknowledgement_118 (by decide) (fun hc => ?_) (fun hc => ?_)
          · have h := (if_neg hc).symm.trans h
            exact wX16_acknowledgement_L151 X hE hn fu   a0 a1 M13 h
          · have h := (if_pos hc).symm.trans h
            refine g_aload_n X (pc := 121) 0 rfl rfl dX16_acknowledgement_121 ?_
            obtain ⟨v15, ev15, h⟩ := bd h
            refine g_getI X (pc := 122) fk_16_37 rfl rfl ev15 tb_1851 dX16_acknowledgement_122 ?_
            refine g_aload_n X (pc := 125) 1 rfl rfl dX16_acknowledgement_125 ?_
            obtain ⟨v16, ev16, h⟩ := bd h
            refine g_getI X (pc := 126) fk_12_7 rfl rfl ev16 tb_1587 dX16_acknowledgement_126 ?_
            refine g_icmp_ne X (pc := 129) (tgt := 151) dX16_acknowledgement_129 (by decide) (fun hc => ?_) (fun hc => ?_)
            · have h := (if_neg hc).symm.trans h
              exact wX16_acknowledgement_L151 X hE hn fu   a0 a1 M13 h
            · have h := (if_pos hc).symm.trans h
              refine g_aload_n X (pc := 132) 1 rfl rfl dX16_acknowledgement_132 ?_
              obtain ⟨v17, ev17, h⟩ := bd h
              refine g_getI X (pc := 133) fk_12_4 rfl rfl ev17 tb_1584 dX16_acknowledgement_133 ?_
              refine g_aload_n X (pc := 136) 1 rfl rfl dX16_acknowledgement_136 ?_
              obtain ⟨v18, ev18, h⟩ := bd h
              refine g_getI X (pc := 137) fk_12_6 rfl rfl ev18 tb_1586 dX16_acknowledgement_137 ?_
              obtain ⟨v20, M19, eM19, h⟩ := b2d h
              refine g_callS X (pc := 140) (M' := M19) (ro := some (pI v20)) (as := [pI v17, pI v18]) (as' := [pI v18, pI v17]) (st := []) (ctX16_before _ _ _ _ _ _ fu  v17 v18 M13 _ eM19) tb_2170 tb_2168 tb_2169 tb_8 hyX16_before rfl rfl ⟨by decide, by decide⟩ (Nat.le_of_ble_eq_true rfl) dX16_acknowledgement_140 ?_
              refine g_if_eq X (pc := 143) (tgt := 151) dX16_acknowledgement_143 (by decide) (fun hc => ?_) (fun hc => ?_)
              · have h := (if_pos hc).symm.trans h
                exact wX16_acknowledgement_L151 X hE hn fu   a0 a1 M19 h
              · have h := (if_neg hc).symm.trans h
                refine g_aload_n X (pc := 146) 0 rfl rfl dX16_acknowledgement_146 ?_
                refine g_aload_n X (pc := 147) 1 rfl rfl dX16_acknowledgement_147 ?_
                obtain ⟨q21, eq21, h⟩ := bd h
                obtain ⟨M22, eM22, h⟩ := bd h
                refine g_callV X (pc := 148) (M' := M22) (ro := none) (c := 16) rfl (by decide) (as := [pR a1]) (as' := [pR a1]) (st := []) eq21 (ctX16_duplicate _ _ _ _ _ _ fu q21 a1 M19 _ eM22) tb_2305 tb_2302 tb_2304 ts_114 tb_8 ⟨rfl, hyX16_duplicate⟩ rfl rfl ⟨by decide, by decide⟩ (Nat.le_of_ble_eq_true rfl) dX16_acknowledgement_148 ?_
                exact wX16_acknowledgement_L151 X hE hn fu   a0 a1 M22 h
      · have h := (if_neg hc).symm.trans h
        refine g_aload_n X (pc := 95) 0 rfl rfl dX16_acknowledgement_95 ?_
        refine g_aload_n X (pc := 96) 1 rfl rfl dX16_acknowledgement_96 ?_
        obtain ⟨q23, eq23, h⟩ := bd h
        obtain ⟨M24, eM24, h⟩ := bd h
        refine g_callV X (pc := 97) (M' := M24) (ro := none) (c := 16) rfl (by decide) (as := [pR a1]) (as' := [pR a1]) (st := []) eq23 (ctX16_fresh _ _ _ _ _ _ fu q23 a1 M8 _ eM24) tb_2286 tb_2283 tb_2285 ts_112 tb_8 ⟨rfl, hyX16_fresh⟩ rfl rfl ⟨by decide, by decide⟩ (Nat.le_of_ble_eq_true rfl) dX16_acknowledgement_97 ?_
        refine g_goto X (pc := 100) (tgt := 151) dX16_acknowledgement_100 (by decide) ?_
        exact wX16_acknowledgement_L151 X hE hn fu   a0 a1 M24 h
    · have h := (if_neg hc).symm.trans h
      refine g_aload_n X (pc := 74) 0 rfl rfl dX16_acknowledgement_74 ?_
      refine g_aload_n X (pc := 75) 1 rfl rfl dX16_acknowledgement_75 ?_
      obtain ⟨q25, eq25, h⟩ := bd h
      obtain ⟨M26, eM26, h⟩ := bd h
      refine g_callV X (pc := 76) (M' := M26) (ro := none) (c := 16) rfl (by decide) (as := [pR a1]) (as' := [pR a1]) (st := []) eq25 (ctX16_acknowledge _ _ _ _ _ _ fu q25 a1 M4 _ eM26) tb_2278 tb_2275 tb_2277 ts_110 tb_8 ⟨rfl, hyX16_acknowledge⟩ rfl rfl ⟨by decide, by decide⟩ (Nat.le_of_ble_eq_true rfl) dX16_acknowledgement_76 ?_
      refine g_iconst X (pc := 79) (v := 0) dX16_acknowledgement_79 (by decide) ?_
      obtain ⟨hz, rfl⟩ := rN_some h
      exact g_nreturn X rfl hz hE dX16_acknowledgement_80
  · have h := (if_pos hc).symm.trans h
    refine g_aload_n X (pc := 8) 0 rfl rfl dX16_acknowledgement_8 ?_
    obtain ⟨v27, ev27, h⟩ := bd h
    refine g_getI X (pc := 9) fk_16_35 rfl rfl ev27 tb_1849 dX16_acknowledgement_9 ?_
    refine g_aload_n X (pc := 12) 1 rfl rfl dX16_acknowledgement_12 ?_
    obtain ⟨v28, ev28, h⟩ := bd h
    refine g_getI X (pc := 13) fk_12_3 rfl rfl ev28 tb_1583 dX16_acknowledgement_13 ?_
    refine g_iconst X (pc := 16) (v := 1) dX16_acknowledgement_16 (by decide) ?_
    refine g_iadd X (pc := 17) dX16_acknowledgement_17 ?_
    refine g_icmp_eq X (pc := 18) (tgt := 27) dX16_acknowledgement_18 (by decide) (fun hc => ?_) (fun hc => ?_)
    · have h := (if_pos hc).symm.trans h
      refine g_aload_n X (pc := 27) 0 rfl rfl dX16_acknowledgement_27 ?_
      refine g_aload_n X (pc := 28) 1 rfl rfl dX16_acknowledgement_28 ?_
      obtain ⟨q29, eq29, h⟩ := bd h
      obtain ⟨M30, eM30, h⟩ := bd h
      refine g_callV X (pc := 29) (M' := M30) (ro := none) (c := 16) rfl (by decide) (as := [pR a1]) (as' := [pR a1]) (st := []) eq29 (ctX16_fresh _ _ _ _ _ _ fu q29 a1 M _ eM30) tb_2286 tb_2283 tb_2285 ts_112 tb_8 ⟨rfl, hyX16_fresh⟩ rfl rfl ⟨by decide, by decide⟩ (Nat.le_of_ble_eq_true rfl) dX16_acknowledgement_29 ?_
      refine g_aload_n X (pc := 32) 1 rfl rfl dX16_acknowledgement_32 ?_
      refine g_iconst X (pc := 33) (v := 2) dX16_acknowledgement_33 (by decide) ?_
      obtain ⟨M31, eM31, h⟩ := bd h
      refine g_putI X (pc := 34) fk_12_0 rfl rfl rfl eM31 tb_1580 (Or.inl rfl) dX16_acknowledgement_34 ?_
      refine g_aload_n X (pc := 37) 1 rfl rfl dX16_acknowledgement_37 ?_
      refine g_aload_n X (pc := 38) 0 rfl rfl dX16_acknowledgement_38 ?_
      obtain ⟨v32, ev32, h⟩ := bd h
      refine g_getI X (pc := 39) fk_16_10 rfl rfl ev32 tb_1824 dX16_acknowledgement_39 ?_
      obtain ⟨M33, eM33, h⟩ := bd h
      refine g_putI X (pc := 42) fk_12_43 rfl rfl rfl eM33 tb_1633 (Or.inl rfl) dX16_acknowledgement_42 ?_
      refine g_aload_n X (pc := 45) 1 rfl rfl dX16_acknowledgement_45 ?_
      refine g_aload_n X (pc := 46) 0 rfl rfl dX16_acknowledgement_46 ?_
      obtain ⟨v34, ev34, h⟩ := bd h
      refine g_getI X (pc := 47) fk_16_10 rfl rfl ev34 tb_1824 dX16_acknowledgement_47 ?_
      obtain ⟨M35, eM35, h⟩ := bd h
      refine g_putI X (pc := 50) fk_12_44 rfl rfl rfl eM35 tb_1634 (Or.inl rfl) dX16_acknowledgement_50 ?_
      refine g_aload_n X (pc := 53) 0 rfl rfl dX16_acknowledgement_53 ?_
      refine g_aload_n X (pc := 54) 1 rfl rfl dX16_acknowledgement_54 ?_
      obtain ⟨q36, eq36, h⟩ := bd h
      obtain ⟨M37, eM37, h⟩ := bd h
      refine g_callV X (pc := 55) (M' := M37) (ro := none) (c := 16) rfl (by decide) (as := [pR a1]) (as' := [pR a1]) (st := []) eq36 (ctX16_takeWindow _ _ _ _ _ _ fu q36 a1 M35 _ eM37) tb_2301 tb_2298 tb_2300 ts_113 tb_8 ⟨rfl, hyX16_takeWindow⟩ rfl rfl ⟨by decide, by decide⟩ (Nat.le_of_ble_eq_true rfl) dX16_acknowledgement_55 ?_
      refine g_iconst X (pc := 58) (v := 1) dX16_acknowledgement_58 (by decide) ?_
      obtain ⟨hz, rfl⟩ := rN_some h
      exact g_nreturn X rfl hz hE dX16_acknowledgement_59
    · have h := (if_neg hc).symm.trans h
      refine g_aload_n X (pc := 21) 0 rfl rfl dX16_acknowledgement_21 ?_
      obtain ⟨q38, eq38, h⟩ := bd h
      obtain ⟨M39, eM39, h⟩ := bd h
      refine g_callV X (pc := 22) (M' := M39) (ro := none) (c := 16) rfl (by decide) (as := []) (as' := []) (st := []) eq38 (ctX16_reset _ _ _ _ _ _ fu q38  M _ eM39) tb_2254 tb_2251 tb_2253 ts_105 tb_8 ⟨rfl, hyX16_reset⟩ rfl rfl ⟨by decide, by decide⟩ (Nat.le_of_ble_eq_true rfl) dX16_acknowledgement_22 ?_
      refine g_iconst X (pc := 25) (v := 0) dX16_acknowledgement_25 (by decide) ?_
      obtain ⟨hz, rfl⟩ := rN_some h
      exact g_nreturn X rfl hz hE dX16_acknowledgement_26
theorem hyX16_acknowledgement : yX16_acknowledgement.cls ≠ "java/lang/invoke/MethodHandle" ∧ yX16_acknowledgement.cls ≠ "java/lang/invoke/VarHandle" ∧ (parseMethodDescriptor yX16_acknowledgement.desc).map (fun d => d.parameters.length) = some 1 := ⟨by decide +kernel, by decide +kernel, by decide +kernel⟩
theorem ctX16_acknowledgement (l : Launch) (E : Nat → Nat) (D : va_G) (dA : Nat → ClassId) (lo : Nat) (H0 : Heap) (fu : Nat) (a0 : Nat) (a1 : Option Nat) (M : Mm) (out : Int32 × Mm) (h : fX16_acknowledgement fu a0 a1 M = some out) : Ct l E D dA lo H0 yX16_acknowledgement cX16_acknowledgement 3 (some .boolean) 8 205 [pR (some a0), pR a1] M (some (pI out.1)) out.2 := by
  refine ct_of (by decide +kernel) (Nat.le_of_ble_eq_true rfl) ?_
  intro x hl he hd ha ho hh hn hin X hE
  exact wX16_acknowledgement X hE hn fu a0 a1 M h
